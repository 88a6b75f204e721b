set_option maxRecDepth 20000 in
theorem ggX9_init_X9_layOptions : GoodIn wsX9_init wsX9_layOptions := goodIn_r _ [36, 8, 9, 10, 11, 53, 54, 55, 56, 57, 58, 59, 60, 61, 62, 63, 64, 65, 66, 67, 68, 69, 70, 71, 72, 73, 74, 75, 76, 77, 78, 79, 80, 81, 82, 83, 84, 85, 86, 87, 88, 89, 90, 91, 92, 93, 94, 95, 96] (by decide +kernel) (by decide +kernel)
set_option maxRecDepth 20000 in
theorem gX9_init_X9_layOptions : GoodIn wsX9_init (wsV RX9 90 RX9 yX9_layOptions wsX9_layOptions) := goodIn_app (goodIn_of _ (by decide +kernel)) ggX9_init_X9_layOptions
set_option maxRecDepth 20000 in
theorem ggX9_init_X9_layTables : GoodIn wsX9_init wsX9_layTables := goodIn_r _ [40, 12, 8, 10, 13, 7, 15, 9, 11, 41, 42, 43, 35, 44, 5, 45, 46, 47, 48, 6, 49, 50, 51, 52, 53, 54, 55, 56, 57, 58, 59, 60, 61, 62, 63, 64, 65, 66, 67, 68, 69, 70, 71, 72, 73, 74, 75, 76, 77, 78, 79, 80, 81, 82, 83, 84, 85, 86, 87, 88, 89, 90, 91, 92, 93, 94, 95, 96] (by decide +kernel) (by decide +kernel)
set_option maxRecDepth 20000 in
theorem gX9_init_X9_layTables : GoodIn wsX9_init (wsV RX9 93 RX9 yX9_layTables wsX9_layTables) := goodIn_app (goodIn_of _ (by decide +kernel)) ggX9_init_X9_layTables
theorem dX9_init_0 : decode cX9_init 0 = .ok (.aload_n 0, 1) := by decide +kernel
theorem dX9_init_1 : decode cX9_init 1 = .ok (.invokespecial 1, 3) := by decide +kernel
theorem dX9_init_4 : decode cX9_init 4 = .ok (.aload_n 0, 1) := by decide +kernel
theorem dX9_init_5 : decode cX9_init 5 = .ok (.bipush 7, 2) := by decide +kernel
theorem dX9_init_7 : decode cX9_init 7 = .ok (.newarray .int, 2) := by decide +kernel
theorem dX9_init_9 : decode cX9_init 9 = .ok (.putfield 7, 3) := by decide +kernel
theorem dX9_init_12 : decode cX9_init 12 = .ok (.aload_n 0, 1) := by decide +kernel
theorem dX9_init_13 : decode cX9_init 13 = .ok (.bipush 7, 2) := by decide +kernel
theorem dX9_init_15 : decode cX9_init 15 = .ok (.newarray .int, 2) := by decide +kernel
theorem dX9_init_17 : decode cX9_init 17 = .ok (.putfield 13, 3) := by decide +kernel
theorem dX9_init_20 : decode cX9_init 20 = .ok (.aload_n 0, 1) := by decide +kernel
theorem dX9_init_21 : decode cX9_init 21 = .ok (.sipush 15309, 3) := by decide +kernel
theorem dX9_init_24 : decode cX9_init 24 = .ok (.newarray .int, 2) := by decide +kernel
theorem dX9_init_26 : decode cX9_init 26 = .ok (.putfield 16, 3) := by decide +kernel
theorem dX9_init_29 : decode cX9_init 29 = .ok (.aload_n 0, 1) := by decide +kernel
theorem dX9_init_30 : decode cX9_init 30 = .ok (.bipush 63, 2) := by decide +kernel
theorem dX9_init_32 : decode cX9_init 32 = .ok (.newarray .int, 2) := by decide +kernel
theorem dX9_init_34 : decode cX9_init 34 = .ok (.putfield 19, 3) := by decide +kernel
theorem dX9_init_37 : decode cX9_init 37 = .ok (.aload_n 0, 1) := by decide +kernel
theorem dX9_init_38 : decode cX9_init 38 = .ok (.bipush 63, 2) := by decide +kernel
theorem dX9_init_40 : decode cX9_init 40 = .ok (.newarray .int, 2) := by decide +kernel
theorem dX9_init_42 : decode cX9_init 42 = .ok (.putfield 22, 3) := by decide +kernel
theorem dX9_init_45 : decode cX9_init 45 = .ok (.aload_n 0, 1) := by decide +kernel
theorem dX9_init_46 : decode cX9_init 46 = .ok (.bipush 63, 2) := by decide +kernel
theorem dX9_init_48 : decode cX9_init 48 = .ok (.newarray .int, 2) := by decide +kernel
theorem dX9_init_50 : decode cX9_init 50 = .ok (.putfield 25, 3) := by decide +kernel
theorem dX9_init_53 : decode cX9_init 53 = .ok (.aload_n 0, 1) := by decide +kernel
theorem dX9_init_54 : decode cX9_init 54 = .ok (.bipush 63, 2) := by decide +kernel
theorem dX9_init_56 : decode cX9_init 56 = .ok (.newarray .int, 2) := by decide +kernel
theorem dX9_init_58 : decode cX9_init 58 = .ok (.putfield 28, 3) := by decide +kernel
theorem dX9_init_61 : decode cX9_init 61 = .ok (.aload_n 0, 1) := by decide +kernel
theorem dX9_init_62 : decode cX9_init 62 = .ok (.bipush 63, 2) := by decide +kernel
theorem dX9_init_64 : decode cX9_init 64 = .ok (.newarray .int, 2) := by decide +kernel
theorem dX9_init_66 : decode cX9_init 66 = .ok (.putfield 31, 3) := by decide +kernel
theorem dX9_init_69 : decode cX9_init 69 = .ok (.aload_n 0, 1) := by decide +kernel
theorem dX9_init_70 : decode cX9_init 70 = .ok (.bipush 63, 2) := by decide +kernel
theorem dX9_init_72 : decode cX9_init 72 = .ok (.newarray .int, 2) := by decide +kernel
theorem dX9_init_74 : decode cX9_init 74 = .ok (.putfield 34, 3) := by decide +kernel
theorem dX9_init_77 : decode cX9_init 77 = .ok (.aload_n 0, 1) := by decide +kernel
theorem dX9_init_78 : decode cX9_init 78 = .ok (.ldc 37, 2) := by decide +kernel
theorem dX9_init_80 : decode cX9_init 80 = .ok (.newarray .int, 2) := by decide +kernel
theorem dX9_init_82 : decode cX9_init 82 = .ok (.putfield 38, 3) := by decide +kernel
theorem dX9_init_85 : decode cX9_init 85 = .ok (.aload_n 0, 1) := by decide +kernel
theorem dX9_init_86 : decode cX9_init 86 = .ok (.bipush 56, 2) := by decide +kernel
theorem dX9_init_88 : decode cX9_init 88 = .ok (.newarray .int, 2) := by decide +kernel
theorem dX9_init_90 : decode cX9_init 90 = .ok (.putfield 41, 3) := by decide +kernel
theorem dX9_init_93 : decode cX9_init 93 = .ok (.aload_n 0, 1) := by decide +kernel
theorem dX9_init_94 : decode cX9_init 94 = .ok (.bipush 8, 2) := by decide +kernel
theorem dX9_init_96 : decode cX9_init 96 = .ok (.newarray .int, 2) := by decide +kernel
theorem dX9_init_98 : decode cX9_init 98 = .ok (.putfield 44, 3) := by decide +kernel
theorem dX9_init_101 : decode cX9_init 101 = .ok (.aload_n 0, 1) := by decide +kernel
theorem dX9_init_102 : decode cX9_init 102 = .ok (.bipush 8, 2) := by decide +kernel
theorem dX9_init_104 : decode cX9_init 104 = .ok (.newarray .int, 2) := by decide +kernel
theorem dX9_init_106 : decode cX9_init 106 = .ok (.putfield 47, 3) := by decide +kernel
theorem dX9_init_109 : decode cX9_init 109 = .ok (.aload_n 0, 1) := by decide +kernel
theorem dX9_init_110 : decode cX9_init 110 = .ok (.bipush 8, 2) := by decide +kernel
theorem dX9_init_112 : decode cX9_init 112 = .ok (.newarray .int, 2) := by decide +kernel
theorem dX9_init_114 : decode cX9_init 114 = .ok (.putfield 50, 3) := by decide +kernel
theorem dX9_init_117 : decode cX9_init 117 = .ok (.aload_n 0, 1) := by decide +kernel
theorem dX9_init_118 : decode cX9_init 118 = .ok (.bipush 8, 2) := by decide +kernel
theorem dX9_init_120 : decode cX9_init 120 = .ok (.newarray .int, 2) := by decide +kernel
theorem dX9_init_122 : decode cX9_init 122 = .ok (.putfield 53, 3) := by decide +kernel
theorem dX9_init_125 : decode cX9_init 125 = .ok (.aload_n 0, 1) := by decide +kernel
theorem dX9_init_126 : decode cX9_init 126 = .ok (.sipush 17496, 3) := by decide +kernel
theorem dX9_init_129 : decode cX9_init 129 = .ok (.newarray .int, 2) := by decide +kernel
theorem dX9_init_131 : decode cX9_init 131 = .ok (.putfield 56, 3) := by decide +kernel
theorem dX9_init_134 : decode cX9_init 134 = .ok (.aload_n 0, 1) := by decide +kernel
theorem dX9_init_135 : decode cX9_init 135 = .ok (.sipush 17496, 3) := by decide +kernel
theorem dX9_init_138 : decode cX9_init 138 = .ok (.newarray .int, 2) := by decide +kernel
theorem dX9_init_140 : decode cX9_init 140 = .ok (.putfield 59, 3) := by decide +kernel
theorem dX9_init_143 : decode cX9_init 143 = .ok (.aload_n 0, 1) := by decide +kernel
theorem dX9_init_144 : decode cX9_init 144 = .ok (.sipush 17496, 3) := by decide +kernel
theorem dX9_init_147 : decode cX9_init 147 = .ok (.newarray .int, 2) := by decide +kernel
theorem dX9_init_149 : decode cX9_init 149 = .ok (.putfield 62, 3) := by decide +kernel
theorem dX9_init_152 : decode cX9_init 152 = .ok (.aload_n 0, 1) := by decide +kernel
theorem dX9_init_153 : decode cX9_init 153 = .ok (.sipush 17496, 3) := by decide +kernel
theorem dX9_init_156 : decode cX9_init 156 = .ok (.newarray .int, 2) := by decide +kernel
theorem dX9_init_158 : decode cX9_init 158 = .ok (.putfield 65, 3) := by decide +kernel
theorem dX9_init_161 : decode cX9_init 161 = .ok (.aload_n 0, 1) := by decide +kernel
theorem dX9_init_162 : decode cX9_init 162 = .ok (.bipush 8, 2) := by decide +kernel
theorem dX9_init_164 : decode cX9_init 164 = .ok (.newarray .int, 2) := by decide +kernel
theorem dX9_init_166 : decode cX9_init 166 = .ok (.putfield 68, 3) := by decide +kernel
theorem dX9_init_169 : decode cX9_init 169 = .ok (.aload_n 0, 1) := by decide +kernel
theorem dX9_init_170 : decode cX9_init 170 = .ok (.bipush 8, 2) := by decide +kernel
theorem dX9_init_172 : decode cX9_init 172 = .ok (.newarray .int, 2) := by decide +kernel
theorem dX9_init_174 : decode cX9_init 174 = .ok (.putfield 71, 3) := by decide +kernel
theorem dX9_init_177 : decode cX9_init 177 = .ok (.aload_n 0, 1) := by decide +kernel
theorem dX9_init_178 : decode cX9_init 178 = .ok (.bipush 18, 2) := by decide +kernel
theorem dX9_init_180 : decode cX9_init 180 = .ok (.newarray .int, 2) := by decide +kernel
theorem dX9_init_182 : decode cX9_init 182 = .ok (.putfield 74, 3) := by decide +kernel
theorem dX9_init_185 : decode cX9_init 185 = .ok (.aload_n 0, 1) := by decide +kernel
theorem dX9_init_186 : decode cX9_init 186 = .ok (.bipush 8, 2) := by decide +kernel
theorem dX9_init_188 : decode cX9_init 188 = .ok (.newarray .int, 2) := by decide +kernel
theorem dX9_init_190 : decode cX9_init 190 = .ok (.putfield 77, 3) := by decide +kernel
theorem dX9_init_193 : decode cX9_init 193 = .ok (.aload_n 0, 1) := by decide +kernel
theorem dX9_init_194 : decode cX9_init 194 = .ok (.bipush 8, 2) := by decide +kernel
theorem dX9_init_196 : decode cX9_init 196 = .ok (.newarray .int, 2) := by decide +kernel
theorem dX9_init_198 : decode cX9_init 198 = .ok (.putfield 80, 3) := by decide +kernel
theorem dX9_init_201 : decode cX9_init 201 = .ok (.aload_n 0, 1) := by decide +kernel
theorem dX9_init_202 : decode cX9_init 202 = .ok (.bipush 18, 2) := by decide +kernel
theorem dX9_init_204 : decode cX9_init 204 = .ok (.newarray .int, 2) := by decide +kernel
theorem dX9_init_206 : decode cX9_init 206 = .ok (.putfield 83, 3) := by decide +kernel
theorem dX9_init_209 : decode cX9_init 209 = .ok (.aload_n 0, 1) := by decide +kernel
theorem dX9_init_210 : decode cX9_init 210 = .ok (.iconst (-1), 1) := by decide +kernel
theorem dX9_init_211 : decode cX9_init 211 = .ok (.putfield 86, 3) := by decide +kernel
theorem dX9_init_214 : decode cX9_init 214 = .ok (.iconst 0, 1) := by decide +kernel
theorem dX9_init_215 : decode cX9_init 215 = .ok (.istore_n 1, 1) := by decide +kernel
theorem dX9_init_216 : decode cX9_init 216 = .ok (.iload_n 1, 1) := by decide +kernel
theorem dX9_init_217 : decode cX9_init 217 = .ok (.bipush 7, 2) := by decide +kernel
theorem dX9_init_219 : decode cX9_init 219 = .ok (.if_icmp .ge 98, 3) := by decide +kernel
theorem dX9_init_222 : decode cX9_init 222 = .ok (.aload_n 0, 1) := by decide +kernel
theorem dX9_init_223 : decode cX9_init 223 = .ok (.getfield 7, 3) := by decide +kernel
theorem dX9_init_226 : decode cX9_init 226 = .ok (.iload_n 1, 1) := by decide +kernel
theorem dX9_init_227 : decode cX9_init 227 = .ok (.iload_n 1, 1) := by decide +kernel
theorem dX9_init_228 : decode cX9_init 228 = .ok (.ifCond .ne 9, 3) := by decide +kernel
theorem dX9_init_231 : decode cX9_init 231 = .ok (.sipush 729, 3) := by decide +kernel
theorem dX9_init_234 : decode cX9_init 234 = .ok (.goto 13, 3) := by decide +kernel
theorem dX9_init_237 : decode cX9_init 237 = .ok (.aload_n 0, 1) := by decide +kernel
theorem dX9_init_238 : decode cX9_init 238 = .ok (.getfield 7, 3) := by decide +kernel
theorem dX9_init_241 : decode cX9_init 241 = .ok (.iload_n 1, 1) := by decide +kernel
theorem dX9_init_242 : decode cX9_init 242 = .ok (.iconst 1, 1) := by decide +kernel
theorem dX9_init_243 : decode cX9_init 243 = .ok (.isub, 1) := by decide +kernel
theorem dX9_init_244 : decode cX9_init 244 = .ok (.iaload, 1) := by decide +kernel
theorem dX9_init_245 : decode cX9_init 245 = .ok (.iconst 3, 1) := by decide +kernel
theorem dX9_init_246 : decode cX9_init 246 = .ok (.idiv, 1) := by decide +kernel
theorem dX9_init_247 : decode cX9_init 247 = .ok (.iastore, 1) := by decide +kernel
theorem dX9_init_248 : decode cX9_init 248 = .ok (.aload_n 0, 1) := by decide +kernel
theorem dX9_init_249 : decode cX9_init 249 = .ok (.getfield 13, 3) := by decide +kernel
theorem dX9_init_252 : decode cX9_init 252 = .ok (.iload_n 1, 1) := by decide +kernel
theorem dX9_init_253 : decode cX9_init 253 = .ok (.iload_n 1, 1) := by decide +kernel
theorem dX9_init_254 : decode cX9_init 254 = .ok (.ifCond .ne 7, 3) := by decide +kernel
theorem dX9_init_257 : decode cX9_init 257 = .ok (.iconst 2, 1) := by decide +kernel
theorem dX9_init_258 : decode cX9_init 258 = .ok (.goto 52, 3) := by decide +kernel
theorem dX9_init_261 : decode cX9_init 261 = .ok (.iload_n 1, 1) := by decide +kernel
theorem dX9_init_262 : decode cX9_init 262 = .ok (.iconst 1, 1) := by decide +kernel
theorem dX9_init_263 : decode cX9_init 263 = .ok (.if_icmp .ne 7, 3) := by decide +kernel
theorem dX9_init_266 : decode cX9_init 266 = .ok (.iconst 0, 1) := by decide +kernel
theorem dX9_init_267 : decode cX9_init 267 = .ok (.goto 43, 3) := by decide +kernel
theorem dX9_init_270 : decode cX9_init 270 = .ok (.iload_n 1, 1) := by decide +kernel
theorem dX9_init_271 : decode cX9_init 271 = .ok (.iconst 2, 1) := by decide +kernel
theorem dX9_init_272 : decode cX9_init 272 = .ok (.if_icmp .ne 8, 3) := by decide +kernel
theorem dX9_init_275 : decode cX9_init 275 = .ok (.bipush 11, 2) := by decide +kernel
theorem dX9_init_277 : decode cX9_init 277 = .ok (.goto 33, 3) := by decide +kernel
theorem dX9_init_280 : decode cX9_init 280 = .ok (.iload_n 1, 1) := by decide +kernel
theorem dX9_init_281 : decode cX9_init 281 = .ok (.iconst 3, 1) := by decide +kernel
theorem dX9_init_282 : decode cX9_init 282 = .ok (.if_icmp .ne 7, 3) := by decide +kernel
theorem dX9_init_285 : decode cX9_init 285 = .ok (.iconst 4, 1) := by decide +kernel
theorem dX9_init_286 : decode cX9_init 286 = .ok (.goto 24, 3) := by decide +kernel
theorem dX9_init_289 : decode cX9_init 289 = .ok (.iload_n 1, 1) := by decide +kernel
theorem dX9_init_290 : decode cX9_init 290 = .ok (.iconst 4, 1) := by decide +kernel
theorem dX9_init_291 : decode cX9_init 291 = .ok (.if_icmp .ne 7, 3) := by decide +kernel
theorem dX9_init_294 : decode cX9_init 294 = .ok (.iconst 5, 1) := by decide +kernel
theorem dX9_init_295 : decode cX9_init 295 = .ok (.goto 15, 3) := by decide +kernel
theorem dX9_init_298 : decode cX9_init 298 = .ok (.iload_n 1, 1) := by decide +kernel
theorem dX9_init_299 : decode cX9_init 299 = .ok (.iconst 5, 1) := by decide +kernel
theorem dX9_init_300 : decode cX9_init 300 = .ok (.if_icmp .ne 8, 3) := by decide +kernel
theorem dX9_init_303 : decode cX9_init 303 = .ok (.bipush 7, 2) := by decide +kernel
theorem dX9_init_305 : decode cX9_init 305 = .ok (.goto 5, 3) := by decide +kernel
theorem dX9_init_308 : decode cX9_init 308 = .ok (.bipush 9, 2) := by decide +kernel
theorem dX9_init_310 : decode cX9_init 310 = .ok (.iastore, 1) := by decide +kernel
theorem dX9_init_311 : decode cX9_init 311 = .ok (.iinc 1 1, 3) := by decide +kernel
theorem dX9_init_314 : decode cX9_init 314 = .ok (.goto (-98), 3) := by decide +kernel
theorem dX9_init_317 : decode cX9_init 317 = .ok (.aload_n 0, 1) := by decide +kernel
theorem dX9_init_318 : decode cX9_init 318 = .ok (.invokevirtual 90, 3) := by decide +kernel
theorem dX9_init_321 : decode cX9_init 321 = .ok (.aload_n 0, 1) := by decide +kernel
theorem dX9_init_322 : decode cX9_init 322 = .ok (.invokevirtual 93, 3) := by decide +kernel
theorem dX9_init_325 : decode cX9_init 325 = .ok (.return_, 1) := by decide +kernel
theorem dX9_in_0 : decode cX9_in 0 = .ok (.lload_n 0, 1) := by decide +kernel
theorem dX9_in_1 : decode cX9_in 1 = .ok (.lload_n 2, 1) := by decide +kernel
theorem dX9_in_2 : decode cX9_in 2 = .ok (.lcmp, 1) := by decide +kernel
theorem dX9_in_3 : decode cX9_in 3 = .ok (.ifCond .lt 14, 3) := by decide +kernel
theorem dX9_in_6 : decode cX9_in 6 = .ok (.lload_n 0, 1) := by decide +kernel
theorem dX9_in_7 : decode cX9_in 7 = .ok (.lload 4, 2) := by decide +kernel
theorem dX9_in_9 : decode cX9_in 9 = .ok (.lcmp, 1) := by decide +kernel
theorem dX9_in_10 : decode cX9_in 10 = .ok (.ifCond .gt 7, 3) := by decide +kernel
theorem dX9_in_13 : decode cX9_in 13 = .ok (.iconst 1, 1) := by decide +kernel
theorem dX9_in_14 : decode cX9_in 14 = .ok (.goto 4, 3) := by decide +kernel
theorem dX9_in_17 : decode cX9_in 17 = .ok (.iconst 0, 1) := by decide +kernel
theorem dX9_in_18 : decode cX9_in 18 = .ok (.ireturn, 1) := by decide +kernel
theorem dX9_copy_0 : decode cX9_copy 0 = .ok (.iconst 0, 1) := by decide +kernel
theorem dX9_copy_1 : decode cX9_copy 1 = .ok (.istore_n 2, 1) := by decide +kernel
theorem dX9_copy_2 : decode cX9_copy 2 = .ok (.iload_n 2, 1) := by decide +kernel
theorem dX9_copy_3 : decode cX9_copy 3 = .ok (.aload_n 0, 1) := by decide +kernel
theorem dX9_copy_4 : decode cX9_copy 4 = .ok (.arraylength, 1) := by decide +kernel
theorem dX9_copy_5 : decode cX9_copy 5 = .ok (.if_icmp .ge 15, 3) := by decide +kernel
theorem dX9_copy_8 : decode cX9_copy 8 = .ok (.aload_n 1, 1) := by decide +kernel
theorem dX9_copy_9 : decode cX9_copy 9 = .ok (.iload_n 2, 1) := by decide +kernel
theorem dX9_copy_10 : decode cX9_copy 10 = .ok (.aload_n 0, 1) := by decide +kernel
theorem dX9_copy_11 : decode cX9_copy 11 = .ok (.iload_n 2, 1) := by decide +kernel
theorem dX9_copy_12 : decode cX9_copy 12 = .ok (.iaload, 1) := by decide +kernel
theorem dX9_copy_13 : decode cX9_copy 13 = .ok (.iastore, 1) := by decide +kernel
theorem dX9_copy_14 : decode cX9_copy 14 = .ok (.iinc 2 1, 3) := by decide +kernel
theorem dX9_copy_17 : decode cX9_copy 17 = .ok (.goto (-15), 3) := by decide +kernel
theorem dX9_copy_20 : decode cX9_copy 20 = .ok (.return_, 1) := by decide +kernel
theorem dX9_ones_0 : decode cX9_ones 0 = .ok (.iconst 0, 1) := by decide +kernel
theorem dX9_ones_1 : decode cX9_ones 1 = .ok (.istore_n 1, 1) := by decide +kernel
theorem dX9_ones_2 : decode cX9_ones 2 = .ok (.iconst 0, 1) := by decide +kernel
theorem dX9_ones_3 : decode cX9_ones 3 = .ok (.istore_n 2, 1) := by decide +kernel
theorem dX9_ones_4 : decode cX9_ones 4 = .ok (.iload_n 2, 1) := by decide +kernel
theorem dX9_ones_5 : decode cX9_ones 5 = .ok (.bipush 12, 2) := by decide +kernel
theorem dX9_ones_7 : decode cX9_ones 7 = .ok (.if_icmp .ge 17, 3) := by decide +kernel
theorem dX9_ones_10 : decode cX9_ones 10 = .ok (.iload_n 1, 1) := by decide +kernel
theorem dX9_ones_11 : decode cX9_ones 11 = .ok (.iload_n 0, 1) := by decide +kernel
theorem dX9_ones_12 : decode cX9_ones 12 = .ok (.iload_n 2, 1) := by decide +kernel
theorem dX9_ones_13 : decode cX9_ones 13 = .ok (.ishr, 1) := by decide +kernel
theorem dX9_ones_14 : decode cX9_ones 14 = .ok (.iconst 1, 1) := by decide +kernel
theorem dX9_ones_15 : decode cX9_ones 15 = .ok (.iand, 1) := by decide +kernel
theorem dX9_ones_16 : decode cX9_ones 16 = .ok (.iadd, 1) := by decide +kernel
theorem dX9_ones_17 : decode cX9_ones 17 = .ok (.istore_n 1, 1) := by decide +kernel
theorem dX9_ones_18 : decode cX9_ones 18 = .ok (.iinc 2 1, 3) := by decide +kernel
theorem dX9_ones_21 : decode cX9_ones 21 = .ok (.goto (-17), 3) := by decide +kernel
theorem dX9_ones_24 : decode cX9_ones 24 = .ok (.iload_n 1, 1) := by decide +kernel
theorem dX9_ones_25 : decode cX9_ones 25 = .ok (.ireturn, 1) := by decide +kernel
theorem dX9_positionOf_0 : decode cX9_positionOf 0 = .ok (.iload_n 1, 1) := by decide +kernel
theorem dX9_positionOf_1 : decode cX9_positionOf 1 = .ok (.aload_n 0, 1) := by decide +kernel
theorem dX9_positionOf_2 : decode cX9_positionOf 2 = .ok (.getfield 7, 3) := by decide +kernel
theorem dX9_positionOf_5 : decode cX9_positionOf 5 = .ok (.iload_n 2, 1) := by decide +kernel
theorem dX9_positionOf_6 : decode cX9_positionOf 6 = .ok (.iaload, 1) := by decide +kernel
theorem dX9_positionOf_7 : decode cX9_positionOf 7 = .ok (.idiv, 1) := by decide +kernel
theorem dX9_positionOf_8 : decode cX9_positionOf 8 = .ok (.iconst 3, 1) := by decide +kernel
theorem dX9_positionOf_9 : decode cX9_positionOf 9 = .ok (.irem, 1) := by decide +kernel
theorem dX9_positionOf_10 : decode cX9_positionOf 10 = .ok (.ireturn, 1) := by decide +kernel
theorem dX9_toneOf_0 : decode cX9_toneOf 0 = .ok (.aload_n 0, 1) := by decide +kernel
theorem dX9_toneOf_1 : decode cX9_toneOf 1 = .ok (.getfield 13, 3) := by decide +kernel
theorem dX9_toneOf_4 : decode cX9_toneOf 4 = .ok (.iload_n 1, 1) := by decide +kernel
theorem dX9_toneOf_5 : decode cX9_toneOf 5 = .ok (.iaload, 1) := by decide +kernel
theorem dX9_toneOf_6 : decode cX9_toneOf 6 = .ok (.iload_n 2, 1) := by decide +kernel
theorem dX9_toneOf_7 : decode cX9_toneOf 7 = .ok (.iadd, 1) := by decide +kernel
theorem dX9_toneOf_8 : decode cX9_toneOf 8 = .ok (.bipush 11, 2) := by decide +kernel
theorem dX9_toneOf_10 : decode cX9_toneOf 10 = .ok (.iadd, 1) := by decide +kernel
theorem dX9_toneOf_11 : decode cX9_toneOf 11 = .ok (.bipush 12, 2) := by decide +kernel
theorem dX9_toneOf_13 : decode cX9_toneOf 13 = .ok (.irem, 1) := by decide +kernel
theorem dX9_toneOf_14 : decode cX9_toneOf 14 = .ok (.ireturn, 1) := by decide +kernel
theorem dX9_toneIn_0 : decode cX9_toneIn 0 = .ok (.aload_n 0, 1) := by decide +kernel
theorem dX9_toneIn_1 : decode cX9_toneIn 1 = .ok (.getfield 16, 3) := by decide +kernel
theorem dX9_toneIn_4 : decode cX9_toneIn 4 = .ok (.bipush 7, 2) := by decide +kernel
theorem dX9_toneIn_6 : decode cX9_toneIn 6 = .ok (.iload_n 1, 1) := by decide +kernel
theorem dX9_toneIn_7 : decode cX9_toneIn 7 = .ok (.imul, 1) := by decide +kernel
theorem dX9_toneIn_8 : decode cX9_toneIn 8 = .ok (.iload_n 2, 1) := by decide +kernel
theorem dX9_toneIn_9 : decode cX9_toneIn 9 = .ok (.iadd, 1) := by decide +kernel
theorem dX9_toneIn_10 : decode cX9_toneIn 10 = .ok (.iaload, 1) := by decide +kernel
theorem dX9_toneIn_11 : decode cX9_toneIn 11 = .ok (.ireturn, 1) := by decide +kernel
set_option maxRecDepth 20000 in
theorem ggX9_told_X9_positionOf : GoodIn wsX9_told wsX9_positionOf := goodIn_r _ [5, 6, 7, 8, 9, 10, 11, 12, 13, 14, 15, 16, 17, 18, 19, 20, 21, 22, 23, 24, 25, 26, 27, 28, 29, 30, 31, 32, 33, 34, 35, 36, 37, 38, 39, 40, 41, 42, 43, 44, 45, 46, 47, 48, 49, 50] (by decide +kernel) (by decide +kernel)
set_option maxRecDepth 20000 in
theorem gX9_told_X9_positionOf : GoodIn wsX9_told (wsV RX9 96 RX9 yX9_positionOf wsX9_positionOf) := goodIn_app (goodIn_of _ (by decide +kernel)) ggX9_told_X9_positionOf
theorem dX9_told_0 : decode cX9_told 0 = .ok (.iconst 0, 1) := by decide +kernel
theorem dX9_told_1 : decode cX9_told 1 = .ok (.istore_n 2, 1) := by decide +kernel
theorem dX9_told_2 : decode cX9_told 2 = .ok (.iconst 0, 1) := by decide +kernel
theorem dX9_told_3 : decode cX9_told 3 = .ok (.istore_n 3, 1) := by decide +kernel
theorem dX9_told_4 : decode cX9_told 4 = .ok (.iload_n 3, 1) := by decide +kernel
theorem dX9_told_5 : decode cX9_told 5 = .ok (.bipush 7, 2) := by decide +kernel
theorem dX9_told_7 : decode cX9_told 7 = .ok (.if_icmp .ge 21, 3) := by decide +kernel
theorem dX9_told_10 : decode cX9_told 10 = .ok (.bipush 10, 2) := by decide +kernel
theorem dX9_told_12 : decode cX9_told 12 = .ok (.iload_n 2, 1) := by decide +kernel
theorem dX9_told_13 : decode cX9_told 13 = .ok (.imul, 1) := by decide +kernel
theorem dX9_told_14 : decode cX9_told 14 = .ok (.aload_n 0, 1) := by decide +kernel
theorem dX9_told_15 : decode cX9_told 15 = .ok (.iload_n 1, 1) := by decide +kernel
theorem dX9_told_16 : decode cX9_told 16 = .ok (.iload_n 3, 1) := by decide +kernel
theorem dX9_told_17 : decode cX9_told 17 = .ok (.invokevirtual 96, 3) := by decide +kernel
theorem dX9_told_20 : decode cX9_told 20 = .ok (.iadd, 1) := by decide +kernel
theorem dX9_told_21 : decode cX9_told 21 = .ok (.istore_n 2, 1) := by decide +kernel
theorem dX9_told_22 : decode cX9_told 22 = .ok (.iinc 3 1, 3) := by decide +kernel
theorem dX9_told_25 : decode cX9_told 25 = .ok (.goto (-21), 3) := by decide +kernel
theorem dX9_told_28 : decode cX9_told 28 = .ok (.iload_n 2, 1) := by decide +kernel
theorem dX9_told_29 : decode cX9_told 29 = .ok (.ireturn, 1) := by decide +kernel
set_option maxRecDepth 20000 in
theorem ggX9_tone_X9_in : GoodIn wsX9_tone wsX9_in := goodIn_r _ [6] (by decide +kernel) (by decide +kernel)
set_option maxRecDepth 20000 in
theorem gX9_tone_X9_in : GoodIn wsX9_tone (va_wsS RX9 102 yX9_in wsX9_in) := goodIn_app (goodIn_of _ (by decide +kernel)) ggX9_tone_X9_in
set_option maxRecDepth 20000 in
theorem ggX9_tone_X9_toneOf : GoodIn wsX9_tone wsX9_toneOf := goodIn_r _ [10, 11, 12, 13, 14, 15, 16, 17, 18, 19, 20, 21, 22, 23, 24, 25, 26, 27, 28, 29, 30, 31, 32, 33, 34, 35, 36, 37, 38, 39, 40, 41, 42, 43, 44, 45, 46, 47, 48, 49, 50, 51, 52, 53, 54, 55] (by decide +kernel) (by decide +kernel)
set_option maxRecDepth 20000 in
theorem gX9_tone_X9_toneOf : GoodIn wsX9_tone (wsV RX9 108 RX9 yX9_toneOf wsX9_toneOf) := goodIn_app (goodIn_of _ (by decide +kernel)) ggX9_tone_X9_toneOf
theorem dX9_tone_0 : decode cX9_tone 0 = .ok (.iload_n 1, 1) := by decide +kernel
theorem dX9_tone_1 : decode cX9_tone 1 = .ok (.i2l, 1) := by decide +kernel
theorem dX9_tone_2 : decode cX9_tone 2 = .ok (.lconst 0, 1) := by decide +kernel
theorem dX9_tone_3 : decode cX9_tone 3 = .ok (.ldc2_w 100, 3) := by decide +kernel
theorem dX9_tone_6 : decode cX9_tone 6 = .ok (.invokestatic 102, 3) := by decide +kernel
theorem dX9_tone_9 : decode cX9_tone 9 = .ok (.ifCond .ne 6, 3) := by decide +kernel
theorem dX9_tone_12 : decode cX9_tone 12 = .ok (.bipush (-101), 2) := by decide +kernel
theorem dX9_tone_14 : decode cX9_tone 14 = .ok (.ireturn, 1) := by decide +kernel
theorem dX9_tone_15 : decode cX9_tone 15 = .ok (.iload_n 2, 1) := by decide +kernel
theorem dX9_tone_16 : decode cX9_tone 16 = .ok (.i2l, 1) := by decide +kernel
theorem dX9_tone_17 : decode cX9_tone 17 = .ok (.lconst 0, 1) := by decide +kernel
theorem dX9_tone_18 : decode cX9_tone 18 = .ok (.ldc2_w 106, 3) := by decide +kernel
theorem dX9_tone_21 : decode cX9_tone 21 = .ok (.invokestatic 102, 3) := by decide +kernel
theorem dX9_tone_24 : decode cX9_tone 24 = .ok (.ifCond .eq 12, 3) := by decide +kernel
theorem dX9_tone_27 : decode cX9_tone 27 = .ok (.aload_n 0, 1) := by decide +kernel
theorem dX9_tone_28 : decode cX9_tone 28 = .ok (.iload_n 1, 1) := by decide +kernel
theorem dX9_tone_29 : decode cX9_tone 29 = .ok (.iload_n 2, 1) := by decide +kernel
theorem dX9_tone_30 : decode cX9_tone 30 = .ok (.invokevirtual 108, 3) := by decide +kernel
theorem dX9_tone_33 : decode cX9_tone 33 = .ok (.goto 5, 3) := by decide +kernel
theorem dX9_tone_36 : decode cX9_tone 36 = .ok (.bipush (-102), 2) := by decide +kernel
theorem dX9_tone_38 : decode cX9_tone 38 = .ok (.ireturn, 1) := by decide +kernel
theorem dX9_layOptions_0 : decode cX9_layOptions 0 = .ok (.iconst 0, 1) := by decide +kernel
theorem dX9_layOptions_1 : decode cX9_layOptions 1 = .ok (.istore_n 1, 1) := by decide +kernel
theorem dX9_layOptions_2 : decode cX9_layOptions 2 = .ok (.iload_n 1, 1) := by decide +kernel
theorem dX9_layOptions_3 : decode cX9_layOptions 3 = .ok (.bipush 63, 2) := by decide +kernel
theorem dX9_layOptions_5 : decode cX9_layOptions 5 = .ok (.if_icmp .ge 85, 3) := by decide +kernel
theorem dX9_layOptions_8 : decode cX9_layOptions 8 = .ok (.iload_n 1, 1) := by decide +kernel
theorem dX9_layOptions_9 : decode cX9_layOptions 9 = .ok (.bipush 7, 2) := by decide +kernel
theorem dX9_layOptions_11 : decode cX9_layOptions 11 = .ok (.irem, 1) := by decide +kernel
theorem dX9_layOptions_12 : decode cX9_layOptions 12 = .ok (.istore_n 2, 1) := by decide +kernel
theorem dX9_layOptions_13 : decode cX9_layOptions 13 = .ok (.iload_n 1, 1) := by decide +kernel
theorem dX9_layOptions_14 : decode cX9_layOptions 14 = .ok (.bipush 7, 2) := by decide +kernel
theorem dX9_layOptions_16 : decode cX9_layOptions 16 = .ok (.idiv, 1) := by decide +kernel
theorem dX9_layOptions_17 : decode cX9_layOptions 17 = .ok (.istore_n 3, 1) := by decide +kernel
theorem dX9_layOptions_18 : decode cX9_layOptions 18 = .ok (.aload_n 0, 1) := by decide +kernel
theorem dX9_layOptions_19 : decode cX9_layOptions 19 = .ok (.getfield 19, 3) := by decide +kernel
theorem dX9_layOptions_22 : decode cX9_layOptions 22 = .ok (.iload_n 1, 1) := by decide +kernel
theorem dX9_layOptions_23 : decode cX9_layOptions 23 = .ok (.iload_n 2, 1) := by decide +kernel
theorem dX9_layOptions_24 : decode cX9_layOptions 24 = .ok (.ifCond .ne 7, 3) := by decide +kernel
theorem dX9_layOptions_27 : decode cX9_layOptions 27 = .ok (.iconst (-1), 1) := by decide +kernel
theorem dX9_layOptions_28 : decode cX9_layOptions 28 = .ok (.goto 8, 3) := by decide +kernel
theorem dX9_layOptions_31 : decode cX9_layOptions 31 = .ok (.iload_n 2, 1) := by decide +kernel
theorem dX9_layOptions_32 : decode cX9_layOptions 32 = .ok (.iconst 1, 1) := by decide +kernel
theorem dX9_layOptions_33 : decode cX9_layOptions 33 = .ok (.isub, 1) := by decide +kernel
theorem dX9_layOptions_34 : decode cX9_layOptions 34 = .ok (.iconst 2, 1) := by decide +kernel
theorem dX9_layOptions_35 : decode cX9_layOptions 35 = .ok (.idiv, 1) := by decide +kernel
theorem dX9_layOptions_36 : decode cX9_layOptions 36 = .ok (.iastore, 1) := by decide +kernel
theorem dX9_layOptions_37 : decode cX9_layOptions 37 = .ok (.aload_n 0, 1) := by decide +kernel
theorem dX9_layOptions_38 : decode cX9_layOptions 38 = .ok (.getfield 22, 3) := by decide +kernel
theorem dX9_layOptions_41 : decode cX9_layOptions 41 = .ok (.iload_n 1, 1) := by decide +kernel
theorem dX9_layOptions_42 : decode cX9_layOptions 42 = .ok (.iconst 1, 1) := by decide +kernel
theorem dX9_layOptions_43 : decode cX9_layOptions 43 = .ok (.iload_n 2, 1) := by decide +kernel
theorem dX9_layOptions_44 : decode cX9_layOptions 44 = .ok (.iconst 1, 1) := by decide +kernel
theorem dX9_layOptions_45 : decode cX9_layOptions 45 = .ok (.iadd, 1) := by decide +kernel
theorem dX9_layOptions_46 : decode cX9_layOptions 46 = .ok (.iconst 2, 1) := by decide +kernel
theorem dX9_layOptions_47 : decode cX9_layOptions 47 = .ok (.irem, 1) := by decide +kernel
theorem dX9_layOptions_48 : decode cX9_layOptions 48 = .ok (.iadd, 1) := by decide +kernel
theorem dX9_layOptions_49 : decode cX9_layOptions 49 = .ok (.iastore, 1) := by decide +kernel
theorem dX9_layOptions_50 : decode cX9_layOptions 50 = .ok (.aload_n 0, 1) := by decide +kernel
theorem dX9_layOptions_51 : decode cX9_layOptions 51 = .ok (.getfield 25, 3) := by decide +kernel
theorem dX9_layOptions_54 : decode cX9_layOptions 54 = .ok (.iload_n 1, 1) := by decide +kernel
theorem dX9_layOptions_55 : decode cX9_layOptions 55 = .ok (.iload_n 3, 1) := by decide +kernel
theorem dX9_layOptions_56 : decode cX9_layOptions 56 = .ok (.ifCond .ne 7, 3) := by decide +kernel
theorem dX9_layOptions_59 : decode cX9_layOptions 59 = .ok (.iconst (-1), 1) := by decide +kernel
theorem dX9_layOptions_60 : decode cX9_layOptions 60 = .ok (.goto 10, 3) := by decide +kernel
theorem dX9_layOptions_63 : decode cX9_layOptions 63 = .ok (.iconst 3, 1) := by decide +kernel
theorem dX9_layOptions_64 : decode cX9_layOptions 64 = .ok (.iload_n 3, 1) := by decide +kernel
theorem dX9_layOptions_65 : decode cX9_layOptions 65 = .ok (.iconst 1, 1) := by decide +kernel
theorem dX9_layOptions_66 : decode cX9_layOptions 66 = .ok (.isub, 1) := by decide +kernel
theorem dX9_layOptions_67 : decode cX9_layOptions 67 = .ok (.iconst 2, 1) := by decide +kernel
theorem dX9_layOptions_68 : decode cX9_layOptions 68 = .ok (.idiv, 1) := by decide +kernel
theorem dX9_layOptions_69 : decode cX9_layOptions 69 = .ok (.iadd, 1) := by decide +kernel
theorem dX9_layOptions_70 : decode cX9_layOptions 70 = .ok (.iastore, 1) := by decide +kernel
theorem dX9_layOptions_71 : decode cX9_layOptions 71 = .ok (.aload_n 0, 1) := by decide +kernel
theorem dX9_layOptions_72 : decode cX9_layOptions 72 = .ok (.getfield 28, 3) := by decide +kernel
theorem dX9_layOptions_75 : decode cX9_layOptions 75 = .ok (.iload_n 1, 1) := by decide +kernel
theorem dX9_layOptions_76 : decode cX9_layOptions 76 = .ok (.iconst 1, 1) := by decide +kernel
theorem dX9_layOptions_77 : decode cX9_layOptions 77 = .ok (.iload_n 3, 1) := by decide +kernel
theorem dX9_layOptions_78 : decode cX9_layOptions 78 = .ok (.iconst 1, 1) := by decide +kernel
theorem dX9_layOptions_79 : decode cX9_layOptions 79 = .ok (.iadd, 1) := by decide +kernel
theorem dX9_layOptions_80 : decode cX9_layOptions 80 = .ok (.iconst 2, 1) := by decide +kernel
theorem dX9_layOptions_81 : decode cX9_layOptions 81 = .ok (.irem, 1) := by decide +kernel
theorem dX9_layOptions_82 : decode cX9_layOptions 82 = .ok (.iadd, 1) := by decide +kernel
theorem dX9_layOptions_83 : decode cX9_layOptions 83 = .ok (.iastore, 1) := by decide +kernel
theorem dX9_layOptions_84 : decode cX9_layOptions 84 = .ok (.iinc 1 1, 3) := by decide +kernel
theorem dX9_layOptions_87 : decode cX9_layOptions 87 = .ok (.goto (-85), 3) := by decide +kernel
theorem dX9_layOptions_90 : decode cX9_layOptions 90 = .ok (.return_, 1) := by decide +kernel
theorem dX9_movedBy_0 : decode cX9_movedBy 0 = .ok (.aload_n 0, 1) := by decide +kernel
theorem dX9_movedBy_1 : decode cX9_movedBy 1 = .ok (.getfield 31, 3) := by decide +kernel
theorem dX9_movedBy_4 : decode cX9_movedBy 4 = .ok (.iload_n 1, 1) := by decide +kernel
theorem dX9_movedBy_5 : decode cX9_movedBy 5 = .ok (.iaload, 1) := by decide +kernel
theorem dX9_movedBy_6 : decode cX9_movedBy 6 = .ok (.ireturn, 1) := by decide +kernel
set_option maxRecDepth 20000 in
theorem ggX9_layTables_X9_positionOf : GoodIn wsX9_layTables wsX9_positionOf := goodIn_r _ [13, 14, 24, 25, 26, 27, 28, 29, 30, 31, 32, 33, 34, 35, 36, 37, 38, 39, 40, 41, 42, 43, 44, 45, 46, 47, 48, 49, 50, 51, 52, 53, 54, 55, 56, 57, 58, 59, 60, 61, 62, 63, 64, 65, 66, 67] (by decide +kernel) (by decide +kernel)
set_option maxRecDepth 20000 in
theorem gX9_layTables_X9_positionOf : GoodIn wsX9_layTables (wsV RX9 96 RX9 yX9_positionOf wsX9_positionOf) := goodIn_app (goodIn_of _ (by decide +kernel)) ggX9_layTables_X9_positionOf
set_option maxRecDepth 20000 in
theorem ggX9_layTables_X9_toneOf : GoodIn wsX9_layTables wsX9_toneOf := goodIn_r _ [18, 19, 24, 25, 26, 27, 28, 29, 30, 31, 32, 33, 34, 35, 36, 37, 38, 39, 40, 41, 42, 43, 44, 45, 46, 47, 48, 49, 50, 51, 52, 53, 54, 55, 56, 57, 58, 59, 60, 61, 62, 63, 64, 65, 66, 67] (by decide +kernel) (by decide +kernel)
set_option maxRecDepth 20000 in
theorem gX9_layTables_X9_toneOf : GoodIn wsX9_layTables (wsV RX9 108 RX9 yX9_toneOf wsX9_toneOf) := goodIn_app (goodIn_of _ (by decide +kernel)) ggX9_layTables_X9_toneOf
set_option maxRecDepth 20000 in
theorem ggX9_layTables_X9_turned : GoodIn wsX9_layTables wsX9_turned := goodIn_r _ [23, 14, 9, 10, 11, 12, 13, 24, 25, 26, 27, 28, 29, 30, 31, 32, 33, 34, 35, 36, 37, 38, 39, 40, 41, 42, 43, 44, 45, 46, 47, 48, 49, 50, 51, 52, 53, 54, 55, 56, 57, 58, 59, 60, 61, 62, 63, 64, 65, 66, 67] (by decide +kernel) (by decide +kernel)
set_option maxRecDepth 20000 in
theorem gX9_layTables_X9_turned : GoodIn wsX9_layTables (wsV RX9 111 RX9 yX9_turned wsX9_turned) := goodIn_app (goodIn_of _ (by decide +kernel)) ggX9_layTables_X9_turned
theorem dX9_layTables_0 : decode cX9_layTables 0 = .ok (.iconst 0, 1) := by decide +kernel
theorem dX9_layTables_1 : decode cX9_layTables 1 = .ok (.istore_n 1, 1) := by decide +kernel
theorem dX9_layTables_2 : decode cX9_layTables 2 = .ok (.iload_n 1, 1) := by decide +kernel
theorem dX9_layTables_3 : decode cX9_layTables 3 = .ok (.bipush 63, 2) := by decide +kernel
theorem dX9_layTables_5 : decode cX9_layTables 5 = .ok (.if_icmp .ge 97, 3) := by decide +kernel
theorem dX9_layTables_8 : decode cX9_layTables 8 = .ok (.aload_n 0, 1) := by decide +kernel
theorem dX9_layTables_9 : decode cX9_layTables 9 = .ok (.getfield 31, 3) := by decide +kernel
theorem dX9_layTables_12 : decode cX9_layTables 12 = .ok (.iload_n 1, 1) := by decide +kernel
theorem dX9_layTables_13 : decode cX9_layTables 13 = .ok (.aload_n 0, 1) := by decide +kernel
theorem dX9_layTables_14 : decode cX9_layTables 14 = .ok (.getfield 19, 3) := by decide +kernel
theorem dX9_layTables_17 : decode cX9_layTables 17 = .ok (.iload_n 1, 1) := by decide +kernel
theorem dX9_layTables_18 : decode cX9_layTables 18 = .ok (.iaload, 1) := by decide +kernel
theorem dX9_layTables_19 : decode cX9_layTables 19 = .ok (.iconst (-1), 1) := by decide +kernel
theorem dX9_layTables_20 : decode cX9_layTables 20 = .ok (.if_icmp .ne 7, 3) := by decide +kernel
theorem dX9_layTables_23 : decode cX9_layTables 23 = .ok (.iconst 0, 1) := by decide +kernel
theorem dX9_layTables_24 : decode cX9_layTables 24 = .ok (.goto 4, 3) := by decide +kernel
theorem dX9_layTables_27 : decode cX9_layTables 27 = .ok (.iconst 1, 1) := by decide +kernel
theorem dX9_layTables_28 : decode cX9_layTables 28 = .ok (.aload_n 0, 1) := by decide +kernel
theorem dX9_layTables_29 : decode cX9_layTables 29 = .ok (.getfield 25, 3) := by decide +kernel
theorem dX9_layTables_32 : decode cX9_layTables 32 = .ok (.iload_n 1, 1) := by decide +kernel
theorem dX9_layTables_33 : decode cX9_layTables 33 = .ok (.iaload, 1) := by decide +kernel
theorem dX9_layTables_34 : decode cX9_layTables 34 = .ok (.iconst (-1), 1) := by decide +kernel
theorem dX9_layTables_35 : decode cX9_layTables 35 = .ok (.if_icmp .ne 7, 3) := by decide +kernel
theorem dX9_layTables_38 : decode cX9_layTables 38 = .ok (.iconst 0, 1) := by decide +kernel
theorem dX9_layTables_39 : decode cX9_layTables 39 = .ok (.goto 4, 3) := by decide +kernel
theorem dX9_layTables_42 : decode cX9_layTables 42 = .ok (.iconst 1, 1) := by decide +kernel
theorem dX9_layTables_43 : decode cX9_layTables 43 = .ok (.iadd, 1) := by decide +kernel
theorem dX9_layTables_44 : decode cX9_layTables 44 = .ok (.iastore, 1) := by decide +kernel
theorem dX9_layTables_45 : decode cX9_layTables 45 = .ok (.aload_n 0, 1) := by decide +kernel
theorem dX9_layTables_46 : decode cX9_layTables 46 = .ok (.getfield 34, 3) := by decide +kernel
theorem dX9_layTables_49 : decode cX9_layTables 49 = .ok (.iload_n 1, 1) := by decide +kernel
theorem dX9_layTables_50 : decode cX9_layTables 50 = .ok (.aload_n 0, 1) := by decide +kernel
theorem dX9_layTables_51 : decode cX9_layTables 51 = .ok (.getfield 19, 3) := by decide +kernel
theorem dX9_layTables_54 : decode cX9_layTables 54 = .ok (.iload_n 1, 1) := by decide +kernel
theorem dX9_layTables_55 : decode cX9_layTables 55 = .ok (.iaload, 1) := by decide +kernel
theorem dX9_layTables_56 : decode cX9_layTables 56 = .ok (.iconst (-1), 1) := by decide +kernel
theorem dX9_layTables_57 : decode cX9_layTables 57 = .ok (.if_icmp .ne 7, 3) := by decide +kernel
theorem dX9_layTables_60 : decode cX9_layTables 60 = .ok (.iconst 0, 1) := by decide +kernel
theorem dX9_layTables_61 : decode cX9_layTables 61 = .ok (.goto 11, 3) := by decide +kernel
theorem dX9_layTables_64 : decode cX9_layTables 64 = .ok (.iconst 1, 1) := by decide +kernel
theorem dX9_layTables_65 : decode cX9_layTables 65 = .ok (.aload_n 0, 1) := by decide +kernel
theorem dX9_layTables_66 : decode cX9_layTables 66 = .ok (.getfield 19, 3) := by decide +kernel
theorem dX9_layTables_69 : decode cX9_layTables 69 = .ok (.iload_n 1, 1) := by decide +kernel
theorem dX9_layTables_70 : decode cX9_layTables 70 = .ok (.iaload, 1) := by decide +kernel
theorem dX9_layTables_71 : decode cX9_layTables 71 = .ok (.ishl, 1) := by decide +kernel
theorem dX9_layTables_72 : decode cX9_layTables 72 = .ok (.aload_n 0, 1) := by decide +kernel
theorem dX9_layTables_73 : decode cX9_layTables 73 = .ok (.getfield 25, 3) := by decide +kernel
theorem dX9_layTables_76 : decode cX9_layTables 76 = .ok (.iload_n 1, 1) := by decide +kernel
theorem dX9_layTables_77 : decode cX9_layTables 77 = .ok (.iaload, 1) := by decide +kernel
theorem dX9_layTables_78 : decode cX9_layTables 78 = .ok (.iconst (-1), 1) := by decide +kernel
theorem dX9_layTables_79 : decode cX9_layTables 79 = .ok (.if_icmp .ne 7, 3) := by decide +kernel
theorem dX9_layTables_82 : decode cX9_layTables 82 = .ok (.iconst 0, 1) := by decide +kernel
theorem dX9_layTables_83 : decode cX9_layTables 83 = .ok (.goto 11, 3) := by decide +kernel
theorem dX9_layTables_86 : decode cX9_layTables 86 = .ok (.iconst 1, 1) := by decide +kernel
theorem dX9_layTables_87 : decode cX9_layTables 87 = .ok (.aload_n 0, 1) := by decide +kernel
theorem dX9_layTables_88 : decode cX9_layTables 88 = .ok (.getfield 25, 3) := by decide +kernel
theorem dX9_layTables_91 : decode cX9_layTables 91 = .ok (.iload_n 1, 1) := by decide +kernel
theorem dX9_layTables_92 : decode cX9_layTables 92 = .ok (.iaload, 1) := by decide +kernel
theorem dX9_layTables_93 : decode cX9_layTables 93 = .ok (.ishl, 1) := by decide +kernel
theorem dX9_layTables_94 : decode cX9_layTables 94 = .ok (.ior, 1) := by decide +kernel
theorem dX9_layTables_95 : decode cX9_layTables 95 = .ok (.iastore, 1) := by decide +kernel
theorem dX9_layTables_96 : decode cX9_layTables 96 = .ok (.iinc 1 1, 3) := by decide +kernel
theorem dX9_layTables_99 : decode cX9_layTables 99 = .ok (.goto (-97), 3) := by decide +kernel
theorem dX9_layTables_102 : decode cX9_layTables 102 = .ok (.iconst 0, 1) := by decide +kernel
theorem dX9_layTables_103 : decode cX9_layTables 103 = .ok (.istore_n 1, 1) := by decide +kernel
theorem dX9_layTables_104 : decode cX9_layTables 104 = .ok (.iload_n 1, 1) := by decide +kernel
theorem dX9_layTables_105 : decode cX9_layTables 105 = .ok (.sipush 2187, 3) := by decide +kernel
theorem dX9_layTables_108 : decode cX9_layTables 108 = .ok (.if_icmp .ge 103, 3) := by decide +kernel
theorem dX9_layTables_111 : decode cX9_layTables 111 = .ok (.iconst 0, 1) := by decide +kernel
theorem dX9_layTables_112 : decode cX9_layTables 112 = .ok (.istore_n 2, 1) := by decide +kernel
theorem dX9_layTables_113 : decode cX9_layTables 113 = .ok (.iload_n 2, 1) := by decide +kernel
theorem dX9_layTables_114 : decode cX9_layTables 114 = .ok (.bipush 7, 2) := by decide +kernel
theorem dX9_layTables_116 : decode cX9_layTables 116 = .ok (.if_icmp .ge 31, 3) := by decide +kernel
theorem dX9_layTables_119 : decode cX9_layTables 119 = .ok (.aload_n 0, 1) := by decide +kernel
theorem dX9_layTables_120 : decode cX9_layTables 120 = .ok (.getfield 16, 3) := by decide +kernel
theorem dX9_layTables_123 : decode cX9_layTables 123 = .ok (.bipush 7, 2) := by decide +kernel
theorem dX9_layTables_125 : decode cX9_layTables 125 = .ok (.iload_n 1, 1) := by decide +kernel
theorem dX9_layTables_126 : decode cX9_layTables 126 = .ok (.imul, 1) := by decide +kernel
theorem dX9_layTables_127 : decode cX9_layTables 127 = .ok (.iload_n 2, 1) := by decide +kernel
theorem dX9_layTables_128 : decode cX9_layTables 128 = .ok (.iadd, 1) := by decide +kernel
theorem dX9_layTables_129 : decode cX9_layTables 129 = .ok (.aload_n 0, 1) := by decide +kernel
theorem dX9_layTables_130 : decode cX9_layTables 130 = .ok (.iload_n 2, 1) := by decide +kernel
theorem dX9_layTables_131 : decode cX9_layTables 131 = .ok (.aload_n 0, 1) := by decide +kernel
theorem dX9_layTables_132 : decode cX9_layTables 132 = .ok (.iload_n 1, 1) := by decide +kernel
theorem dX9_layTables_133 : decode cX9_layTables 133 = .ok (.iload_n 2, 1) := by decide +kernel
theorem dX9_layTables_134 : decode cX9_layTables 134 = .ok (.invokevirtual 96, 3) := by decide +kernel
theorem dX9_layTables_137 : decode cX9_layTables 137 = .ok (.invokevirtual 108, 3) := by decide +kernel
theorem dX9_layTables_140 : decode cX9_layTables 140 = .ok (.iastore, 1) := by decide +kernel
theorem dX9_layTables_141 : decode cX9_layTables 141 = .ok (.iinc 2 1, 3) := by decide +kernel
theorem dX9_layTables_144 : decode cX9_layTables 144 = .ok (.goto (-31), 3) := by decide +kernel
theorem dX9_layTables_147 : decode cX9_layTables 147 = .ok (.iconst 0, 1) := by decide +kernel
theorem dX9_layTables_148 : decode cX9_layTables 148 = .ok (.istore_n 2, 1) := by decide +kernel
theorem dX9_layTables_149 : decode cX9_layTables 149 = .ok (.iload_n 2, 1) := by decide +kernel
theorem dX9_layTables_150 : decode cX9_layTables 150 = .ok (.bipush 63, 2) := by decide +kernel
theorem dX9_layTables_152 : decode cX9_layTables 152 = .ok (.if_icmp .ge 53, 3) := by decide +kernel
theorem dX9_layTables_155 : decode cX9_layTables 155 = .ok (.aload_n 0, 1) := by decide +kernel
theorem dX9_layTables_156 : decode cX9_layTables 156 = .ok (.getfield 38, 3) := by decide +kernel
theorem dX9_layTables_159 : decode cX9_layTables 159 = .ok (.bipush 63, 2) := by decide +kernel
theorem dX9_layTables_161 : decode cX9_layTables 161 = .ok (.iload_n 1, 1) := by decide +kernel
theorem dX9_layTables_162 : decode cX9_layTables 162 = .ok (.imul, 1) := by decide +kernel
theorem dX9_layTables_163 : decode cX9_layTables 163 = .ok (.iload_n 2, 1) := by decide +kernel
theorem dX9_layTables_164 : decode cX9_layTables 164 = .ok (.iadd, 1) := by decide +kernel
theorem dX9_layTables_165 : decode cX9_layTables 165 = .ok (.aload_n 0, 1) := by decide +kernel
theorem dX9_layTables_166 : decode cX9_layTables 166 = .ok (.aload_n 0, 1) := by decide +kernel
theorem dX9_layTables_167 : decode cX9_layTables 167 = .ok (.iload_n 1, 1) := by decide +kernel
theorem dX9_layTables_168 : decode cX9_layTables 168 = .ok (.aload_n 0, 1) := by decide +kernel
theorem dX9_layTables_169 : decode cX9_layTables 169 = .ok (.getfield 19, 3) := by decide +kernel
theorem dX9_layTables_172 : decode cX9_layTables 172 = .ok (.iload_n 2, 1) := by decide +kernel
theorem dX9_layTables_173 : decode cX9_layTables 173 = .ok (.iaload, 1) := by decide +kernel
theorem dX9_layTables_174 : decode cX9_layTables 174 = .ok (.aload_n 0, 1) := by decide +kernel
theorem dX9_layTables_175 : decode cX9_layTables 175 = .ok (.getfield 22, 3) := by decide +kernel
theorem dX9_layTables_178 : decode cX9_layTables 178 = .ok (.iload_n 2, 1) := by decide +kernel
theorem dX9_layTables_179 : decode cX9_layTables 179 = .ok (.iaload, 1) := by decide +kernel
theorem dX9_layTables_180 : decode cX9_layTables 180 = .ok (.invokevirtual 111, 3) := by decide +kernel
theorem dX9_layTables_183 : decode cX9_layTables 183 = .ok (.aload_n 0, 1) := by decide +kernel
theorem dX9_layTables_184 : decode cX9_layTables 184 = .ok (.getfield 25, 3) := by decide +kernel
theorem dX9_layTables_187 : decode cX9_layTables 187 = .ok (.iload_n 2, 1) := by decide +kernel
theorem dX9_layTables_188 : decode cX9_layTables 188 = .ok (.iaload, 1) := by decide +kernel
theorem dX9_layTables_189 : decode cX9_layTables 189 = .ok (.aload_n 0, 1) := by decide +kernel
theorem dX9_layTables_190 : decode cX9_layTables 190 = .ok (.getfield 28, 3) := by decide +kernel
theorem dX9_layTables_193 : decode cX9_layTables 193 = .ok (.iload_n 2, 1) := by decide +kernel
theorem dX9_layTables_194 : decode cX9_layTables 194 = .ok (.iaload, 1) := by decide +kernel
theorem dX9_layTables_195 : decode cX9_layTables 195 = .ok (.invokevirtual 111, 3) := by decide +kernel
theorem dX9_layTables_198 : decode cX9_layTables 198 = .ok (.iastore, 1) := by decide +kernel
theorem dX9_layTables_199 : decode cX9_layTables 199 = .ok (.iinc 2 1, 3) := by decide +kernel
theorem dX9_layTables_202 : decode cX9_layTables 202 = .ok (.goto (-53), 3) := by decide +kernel
theorem dX9_layTables_205 : decode cX9_layTables 205 = .ok (.iinc 1 1, 3) := by decide +kernel
theorem dX9_layTables_208 : decode cX9_layTables 208 = .ok (.goto (-104), 3) := by decide +kernel
theorem dX9_layTables_211 : decode cX9_layTables 211 = .ok (.return_, 1) := by decide +kernel
set_option maxRecDepth 20000 in
theorem ggX9_turned_X9_positionOf : GoodIn wsX9_turned wsX9_positionOf := goodIn_r _ [6, 1, 7, 8, 9, 10, 11, 12, 13, 14, 15, 16, 17, 18, 19, 20, 21, 22, 23, 24, 25, 26, 27, 28, 29, 30, 31, 32, 33, 34, 35, 36, 37, 38, 39, 40, 41, 42, 43, 44, 45, 46, 47, 48, 49, 50] (by decide +kernel) (by decide +kernel)
set_option maxRecDepth 20000 in
theorem gX9_turned_X9_positionOf : GoodIn wsX9_turned (wsV RX9 96 RX9 yX9_positionOf wsX9_positionOf) := goodIn_app (goodIn_of _ (by decide +kernel)) ggX9_turned_X9_positionOf
theorem dX9_turned_0 : decode cX9_turned 0 = .ok (.iload_n 2, 1) := by decide +kernel
theorem dX9_turned_1 : decode cX9_turned 1 = .ok (.iconst (-1), 1) := by decide +kernel
theorem dX9_turned_2 : decode cX9_turned 2 = .ok (.if_icmp .ne 5, 3) := by decide +kernel
theorem dX9_turned_5 : decode cX9_turned 5 = .ok (.iload_n 1, 1) := by decide +kernel
theorem dX9_turned_6 : decode cX9_turned 6 = .ok (.ireturn, 1) := by decide +kernel
theorem dX9_turned_7 : decode cX9_turned 7 = .ok (.aload_n 0, 1) := by decide +kernel
theorem dX9_turned_8 : decode cX9_turned 8 = .ok (.iload_n 1, 1) := by decide +kernel
theorem dX9_turned_9 : decode cX9_turned 9 = .ok (.iload_n 2, 1) := by decide +kernel
theorem dX9_turned_10 : decode cX9_turned 10 = .ok (.invokevirtual 96, 3) := by decide +kernel
theorem dX9_turned_13 : decode cX9_turned 13 = .ok (.istore 4, 2) := by decide +kernel
theorem dX9_turned_15 : decode cX9_turned 15 = .ok (.iload_n 1, 1) := by decide +kernel
theorem dX9_turned_16 : decode cX9_turned 16 = .ok (.iload 4, 2) := by decide +kernel
theorem dX9_turned_18 : decode cX9_turned 18 = .ok (.iload_n 3, 1) := by decide +kernel
theorem dX9_turned_19 : decode cX9_turned 19 = .ok (.iadd, 1) := by decide +kernel
theorem dX9_turned_20 : decode cX9_turned 20 = .ok (.iconst 3, 1) := by decide +kernel
theorem dX9_turned_21 : decode cX9_turned 21 = .ok (.irem, 1) := by decide +kernel
theorem dX9_turned_22 : decode cX9_turned 22 = .ok (.iload 4, 2) := by decide +kernel
theorem dX9_turned_24 : decode cX9_turned 24 = .ok (.isub, 1) := by decide +kernel
theorem dX9_turned_25 : decode cX9_turned 25 = .ok (.aload_n 0, 1) := by decide +kernel
theorem dX9_turned_26 : decode cX9_turned 26 = .ok (.getfield 7, 3) := by decide +kernel
theorem dX9_turned_29 : decode cX9_turned 29 = .ok (.iload_n 2, 1) := by decide +kernel
theorem dX9_turned_30 : decode cX9_turned 30 = .ok (.iaload, 1) := by decide +kernel
theorem dX9_turned_31 : decode cX9_turned 31 = .ok (.imul, 1) := by decide +kernel
theorem dX9_turned_32 : decode cX9_turned 32 = .ok (.iadd, 1) := by decide +kernel
theorem dX9_turned_33 : decode cX9_turned 33 = .ok (.ireturn, 1) := by decide +kernel
theorem dX9_after_0 : decode cX9_after 0 = .ok (.aload_n 0, 1) := by decide +kernel
theorem dX9_after_1 : decode cX9_after 1 = .ok (.getfield 38, 3) := by decide +kernel
theorem dX9_after_4 : decode cX9_after 4 = .ok (.bipush 63, 2) := by decide +kernel
theorem dX9_after_6 : decode cX9_after 6 = .ok (.iload_n 1, 1) := by decide +kernel
theorem dX9_after_7 : decode cX9_after 7 = .ok (.imul, 1) := by decide +kernel
theorem dX9_after_8 : decode cX9_after 8 = .ok (.iload_n 2, 1) := by decide +kernel
theorem dX9_after_9 : decode cX9_after 9 = .ok (.iadd, 1) := by decide +kernel
theorem dX9_after_10 : decode cX9_after 10 = .ok (.iaload, 1) := by decide +kernel
theorem dX9_after_11 : decode cX9_after 11 = .ok (.ireturn, 1) := by decide +kernel
set_option maxRecDepth 20000 in
theorem ggX9_heldPedals_X9_toneIn : GoodIn wsX9_heldPedals wsX9_toneIn := goodIn_r _ [5, 6, 7, 8, 9, 10, 11, 12, 13, 14, 15, 16, 17, 18, 19, 20, 21, 22, 23, 24, 25, 26, 27, 28, 29, 30, 31, 32, 33, 34, 35, 36, 37, 38, 39, 40, 41, 42, 43, 44, 45, 46, 47, 48, 49, 50] (by decide +kernel) (by decide +kernel)
set_option maxRecDepth 20000 in
theorem gX9_heldPedals_X9_toneIn : GoodIn wsX9_heldPedals (wsV RX9 115 RX9 yX9_toneIn wsX9_toneIn) := goodIn_app (goodIn_of _ (by decide +kernel)) ggX9_heldPedals_X9_toneIn
theorem dX9_heldPedals_0 : decode cX9_heldPedals 0 = .ok (.iconst 0, 1) := by decide +kernel
theorem dX9_heldPedals_1 : decode cX9_heldPedals 1 = .ok (.istore_n 3, 1) := by decide +kernel
theorem dX9_heldPedals_2 : decode cX9_heldPedals 2 = .ok (.iconst 0, 1) := by decide +kernel
theorem dX9_heldPedals_3 : decode cX9_heldPedals 3 = .ok (.istore 4, 2) := by decide +kernel
theorem dX9_heldPedals_5 : decode cX9_heldPedals 5 = .ok (.iload 4, 2) := by decide +kernel
theorem dX9_heldPedals_7 : decode cX9_heldPedals 7 = .ok (.bipush 7, 2) := by decide +kernel
theorem dX9_heldPedals_9 : decode cX9_heldPedals 9 = .ok (.if_icmp .ge 30, 3) := by decide +kernel
theorem dX9_heldPedals_12 : decode cX9_heldPedals 12 = .ok (.iload_n 2, 1) := by decide +kernel
theorem dX9_heldPedals_13 : decode cX9_heldPedals 13 = .ok (.ifCond .eq 26, 3) := by decide +kernel
theorem dX9_heldPedals_16 : decode cX9_heldPedals 16 = .ok (.iload_n 3, 1) := by decide +kernel
theorem dX9_heldPedals_17 : decode cX9_heldPedals 17 = .ok (.iload_n 2, 1) := by decide +kernel
theorem dX9_heldPedals_18 : decode cX9_heldPedals 18 = .ok (.aload_n 0, 1) := by decide +kernel
theorem dX9_heldPedals_19 : decode cX9_heldPedals 19 = .ok (.iload_n 1, 1) := by decide +kernel
theorem dX9_heldPedals_20 : decode cX9_heldPedals 20 = .ok (.iload 4, 2) := by decide +kernel
theorem dX9_heldPedals_22 : decode cX9_heldPedals 22 = .ok (.invokevirtual 115, 3) := by decide +kernel
theorem dX9_heldPedals_25 : decode cX9_heldPedals 25 = .ok (.ishr, 1) := by decide +kernel
theorem dX9_heldPedals_26 : decode cX9_heldPedals 26 = .ok (.iconst 1, 1) := by decide +kernel
theorem dX9_heldPedals_27 : decode cX9_heldPedals 27 = .ok (.iand, 1) := by decide +kernel
theorem dX9_heldPedals_28 : decode cX9_heldPedals 28 = .ok (.iload 4, 2) := by decide +kernel
theorem dX9_heldPedals_30 : decode cX9_heldPedals 30 = .ok (.ishl, 1) := by decide +kernel
theorem dX9_heldPedals_31 : decode cX9_heldPedals 31 = .ok (.ior, 1) := by decide +kernel
theorem dX9_heldPedals_32 : decode cX9_heldPedals 32 = .ok (.istore_n 3, 1) := by decide +kernel
theorem dX9_heldPedals_33 : decode cX9_heldPedals 33 = .ok (.iinc 4 1, 3) := by decide +kernel
theorem dX9_heldPedals_36 : decode cX9_heldPedals 36 = .ok (.goto (-31), 3) := by decide +kernel
theorem dX9_heldPedals_39 : decode cX9_heldPedals 39 = .ok (.iload_n 3, 1) := by decide +kernel
theorem dX9_heldPedals_40 : decode cX9_heldPedals 40 = .ok (.ireturn, 1) := by decide +kernel
theorem dX9_mostOf_0 : decode cX9_mostOf 0 = .ok (.iload_n 0, 1) := by decide +kernel
theorem dX9_mostOf_1 : decode cX9_mostOf 1 = .ok (.iconst 4, 1) := by decide +kernel
theorem dX9_mostOf_2 : decode cX9_mostOf 2 = .ok (.if_icmp .ne 7, 3) := by decide +kernel
theorem dX9_mostOf_5 : decode cX9_mostOf 5 = .ok (.iconst 0, 1) := by decide +kernel
theorem dX9_mostOf_6 : decode cX9_mostOf 6 = .ok (.goto 13, 3) := by decide +kernel
theorem dX9_mostOf_9 : decode cX9_mostOf 9 = .ok (.iload_n 0, 1) := by decide +kernel
theorem dX9_mostOf_10 : decode cX9_mostOf 10 = .ok (.iconst 3, 1) := by decide +kernel
theorem dX9_mostOf_11 : decode cX9_mostOf 11 = .ok (.if_icmp .ne 7, 3) := by decide +kernel
theorem dX9_mostOf_14 : decode cX9_mostOf 14 = .ok (.iconst 1, 1) := by decide +kernel
theorem dX9_mostOf_15 : decode cX9_mostOf 15 = .ok (.goto 4, 3) := by decide +kernel
theorem dX9_mostOf_18 : decode cX9_mostOf 18 = .ok (.iconst 2, 1) := by decide +kernel
theorem dX9_mostOf_19 : decode cX9_mostOf 19 = .ok (.ireturn, 1) := by decide +kernel
theorem dX9_can_0 : decode cX9_can 0 = .ok (.aload_n 0, 1) := by decide +kernel
theorem dX9_can_1 : decode cX9_can 1 = .ok (.getfield 31, 3) := by decide +kernel
theorem dX9_can_4 : decode cX9_can 4 = .ok (.iload_n 1, 1) := by decide +kernel
theorem dX9_can_5 : decode cX9_can 5 = .ok (.iaload, 1) := by decide +kernel
theorem dX9_can_6 : decode cX9_can 6 = .ok (.iload_n 2, 1) := by decide +kernel
theorem dX9_can_7 : decode cX9_can 7 = .ok (.if_icmp .gt 18, 3) := by decide +kernel
theorem dX9_can_10 : decode cX9_can 10 = .ok (.aload_n 0, 1) := by decide +kernel
theorem dX9_can_11 : decode cX9_can 11 = .ok (.getfield 34, 3) := by decide +kernel
theorem dX9_can_14 : decode cX9_can 14 = .ok (.iload_n 1, 1) := by decide +kernel
theorem dX9_can_15 : decode cX9_can 15 = .ok (.iaload, 1) := by decide +kernel
theorem dX9_can_16 : decode cX9_can 16 = .ok (.iload_n 3, 1) := by decide +kernel
theorem dX9_can_17 : decode cX9_can 17 = .ok (.iand, 1) := by decide +kernel
theorem dX9_can_18 : decode cX9_can 18 = .ok (.ifCond .ne 7, 3) := by decide +kernel
theorem dX9_can_21 : decode cX9_can 21 = .ok (.iconst 1, 1) := by decide +kernel
theorem dX9_can_22 : decode cX9_can 22 = .ok (.goto 4, 3) := by decide +kernel
theorem dX9_can_25 : decode cX9_can 25 = .ok (.iconst 0, 1) := by decide +kernel
theorem dX9_can_26 : decode cX9_can 26 = .ok (.ireturn, 1) := by decide +kernel
set_option maxRecDepth 20000 in
theorem ggX9_letter_X9_in : GoodIn wsX9_letter wsX9_in := goodIn_r _ [7] (by decide +kernel) (by decide +kernel)
set_option maxRecDepth 20000 in
theorem gX9_letter_X9_in : GoodIn wsX9_letter (va_wsS RX9 102 yX9_in wsX9_in) := goodIn_app (goodIn_of _ (by decide +kernel)) ggX9_letter_X9_in
theorem dX9_letter_0 : decode cX9_letter 0 = .ok (.iload_n 1, 1) := by decide +kernel
theorem dX9_letter_1 : decode cX9_letter 1 = .ok (.i2l, 1) := by decide +kernel
theorem dX9_letter_2 : decode cX9_letter 2 = .ok (.lconst 1, 1) := by decide +kernel
theorem dX9_letter_3 : decode cX9_letter 3 = .ok (.ldc2_w 118, 3) := by decide +kernel
theorem dX9_letter_6 : decode cX9_letter 6 = .ok (.invokestatic 102, 3) := by decide +kernel
theorem dX9_letter_9 : decode cX9_letter 9 = .ok (.ifCond .ne 6, 3) := by decide +kernel
theorem dX9_letter_12 : decode cX9_letter 12 = .ok (.bipush (-102), 2) := by decide +kernel
theorem dX9_letter_14 : decode cX9_letter 14 = .ok (.ireturn, 1) := by decide +kernel
theorem dX9_letter_15 : decode cX9_letter 15 = .ok (.aload_n 0, 1) := by decide +kernel
theorem dX9_letter_16 : decode cX9_letter 16 = .ok (.getfield 120, 3) := by decide +kernel
theorem dX9_letter_19 : decode cX9_letter 19 = .ok (.bipush 56, 2) := by decide +kernel
theorem dX9_letter_21 : decode cX9_letter 21 = .ok (.if_icmp .ne 6, 3) := by decide +kernel
theorem dX9_letter_24 : decode cX9_letter 24 = .ok (.bipush (-104), 2) := by decide +kernel
theorem dX9_letter_26 : decode cX9_letter 26 = .ok (.ireturn, 1) := by decide +kernel
theorem dX9_letter_27 : decode cX9_letter 27 = .ok (.aload_n 0, 1) := by decide +kernel
theorem dX9_letter_28 : decode cX9_letter 28 = .ok (.getfield 41, 3) := by decide +kernel
theorem dX9_letter_31 : decode cX9_letter 31 = .ok (.aload_n 0, 1) := by decide +kernel
theorem dX9_letter_32 : decode cX9_letter 32 = .ok (.getfield 120, 3) := by decide +kernel
theorem dX9_letter_35 : decode cX9_letter 35 = .ok (.iload_n 1, 1) := by decide +kernel
theorem dX9_letter_36 : decode cX9_letter 36 = .ok (.iastore, 1) := by decide +kernel
theorem dX9_letter_37 : decode cX9_letter 37 = .ok (.aload_n 0, 1) := by decide +kernel
theorem dX9_letter_38 : decode cX9_letter 38 = .ok (.dup, 1) := by decide +kernel
theorem dX9_letter_39 : decode cX9_letter 39 = .ok (.getfield 120, 3) := by decide +kernel
theorem dX9_letter_42 : decode cX9_letter 42 = .ok (.iconst 1, 1) := by decide +kernel
theorem dX9_letter_43 : decode cX9_letter 43 = .ok (.iadd, 1) := by decide +kernel
theorem dX9_letter_44 : decode cX9_letter 44 = .ok (.putfield 120, 3) := by decide +kernel
theorem dX9_letter_47 : decode cX9_letter 47 = .ok (.aload_n 0, 1) := by decide +kernel
theorem dX9_letter_48 : decode cX9_letter 48 = .ok (.getfield 120, 3) := by decide +kernel
theorem dX9_letter_51 : decode cX9_letter 51 = .ok (.ireturn, 1) := by decide +kernel
theorem dX9_blank_0 : decode cX9_blank 0 = .ok (.aload_n 0, 1) := by decide +kernel
theorem dX9_blank_1 : decode cX9_blank 1 = .ok (.getfield 120, 3) := by decide +kernel
theorem dX9_blank_4 : decode cX9_blank 4 = .ok (.istore_n 1, 1) := by decide +kernel
theorem dX9_blank_5 : decode cX9_blank 5 = .ok (.aload_n 0, 1) := by decide +kernel
theorem dX9_blank_6 : decode cX9_blank 6 = .ok (.iconst 0, 1) := by decide +kernel
theorem dX9_blank_7 : decode cX9_blank 7 = .ok (.putfield 120, 3) := by decide +kernel
theorem dX9_blank_10 : decode cX9_blank 10 = .ok (.iload_n 1, 1) := by decide +kernel
theorem dX9_blank_11 : decode cX9_blank 11 = .ok (.ireturn, 1) := by decide +kernel
theorem dX9_kindBy_0 : decode cX9_kindBy 0 = .ok (.iload_n 0, 1) := by decide +kernel
theorem dX9_kindBy_1 : decode cX9_kindBy 1 = .ok (.lookupswitch 61 #[(98, 59), (99, 51), (103, 53), (104, 55), (113, 57)], 51) := by decide +kernel
theorem dX9_kindBy_52 : decode cX9_kindBy 52 = .ok (.iconst 0, 1) := by decide +kernel
theorem dX9_kindBy_53 : decode cX9_kindBy 53 = .ok (.ireturn, 1) := by decide +kernel
theorem dX9_kindBy_54 : decode cX9_kindBy 54 = .ok (.iconst 1, 1) := by decide +kernel
theorem dX9_kindBy_55 : decode cX9_kindBy 55 = .ok (.ireturn, 1) := by decide +kernel
theorem dX9_kindBy_56 : decode cX9_kindBy 56 = .ok (.iconst 2, 1) := by decide +kernel
theorem dX9_kindBy_57 : decode cX9_kindBy 57 = .ok (.ireturn, 1) := by decide +kernel
theorem dX9_kindBy_58 : decode cX9_kindBy 58 = .ok (.iconst 3, 1) := by decide +kernel
theorem dX9_kindBy_59 : decode cX9_kindBy 59 = .ok (.ireturn, 1) := by decide +kernel
theorem dX9_kindBy_60 : decode cX9_kindBy 60 = .ok (.iconst 4, 1) := by decide +kernel
theorem dX9_kindBy_61 : decode cX9_kindBy 61 = .ok (.ireturn, 1) := by decide +kernel
theorem dX9_kindBy_62 : decode cX9_kindBy 62 = .ok (.iconst (-1), 1) := by decide +kernel
theorem dX9_kindBy_63 : decode cX9_kindBy 63 = .ok (.ireturn, 1) := by decide +kernel
set_option maxRecDepth 20000 in
theorem ggX9_isChordSign_X9_kindBy : GoodIn wsX9_isChordSign wsX9_kindBy := goodIn_r _ [11] (by decide +kernel) (by decide +kernel)
set_option maxRecDepth 20000 in
theorem gX9_isChordSign_X9_kindBy : GoodIn wsX9_isChordSign (va_wsS RX9 129 yX9_kindBy wsX9_kindBy) := goodIn_app (goodIn_of _ (by decide +kernel)) ggX9_isChordSign_X9_kindBy
set_option maxRecDepth 20000 in
theorem ggX9_isChordSign_X9_in : GoodIn wsX9_isChordSign wsX9_in := goodIn_r _ [14] (by decide +kernel) (by decide +kernel)
set_option maxRecDepth 20000 in
theorem gX9_isChordSign_X9_in : GoodIn wsX9_isChordSign (va_wsS RX9 102 yX9_in wsX9_in) := goodIn_app (goodIn_of _ (by decide +kernel)) ggX9_isChordSign_X9_in
theorem dX9_isChordSign_0 : decode cX9_isChordSign 0 = .ok (.aload_n 0, 1) := by decide +kernel
theorem dX9_isChordSign_1 : decode cX9_isChordSign 1 = .ok (.getfield 41, 3) := by decide +kernel
theorem dX9_isChordSign_4 : decode cX9_isChordSign 4 = .ok (.iload_n 1, 1) := by decide +kernel
theorem dX9_isChordSign_5 : decode cX9_isChordSign 5 = .ok (.iaload, 1) := by decide +kernel
theorem dX9_isChordSign_6 : decode cX9_isChordSign 6 = .ok (.istore_n 2, 1) := by decide +kernel
theorem dX9_isChordSign_7 : decode cX9_isChordSign 7 = .ok (.iload_n 2, 1) := by decide +kernel
theorem dX9_isChordSign_8 : decode cX9_isChordSign 8 = .ok (.bipush 44, 2) := by decide +kernel
theorem dX9_isChordSign_10 : decode cX9_isChordSign 10 = .ok (.if_icmp .ne 27, 3) := by decide +kernel
theorem dX9_isChordSign_13 : decode cX9_isChordSign 13 = .ok (.aload_n 0, 1) := by decide +kernel
theorem dX9_isChordSign_14 : decode cX9_isChordSign 14 = .ok (.getfield 123, 3) := by decide +kernel
theorem dX9_isChordSign_17 : decode cX9_isChordSign 17 = .ok (.iconst 1, 1) := by decide +kernel
theorem dX9_isChordSign_18 : decode cX9_isChordSign 18 = .ok (.if_icmp .le 19, 3) := by decide +kernel
theorem dX9_isChordSign_21 : decode cX9_isChordSign 21 = .ok (.aload_n 0, 1) := by decide +kernel
theorem dX9_isChordSign_22 : decode cX9_isChordSign 22 = .ok (.getfield 126, 3) := by decide +kernel
theorem dX9_isChordSign_25 : decode cX9_isChordSign 25 = .ok (.bipush 8, 2) := by decide +kernel
theorem dX9_isChordSign_27 : decode cX9_isChordSign 27 = .ok (.if_icmp .ge 10, 3) := by decide +kernel
theorem dX9_isChordSign_30 : decode cX9_isChordSign 30 = .ok (.aload_n 0, 1) := by decide +kernel
theorem dX9_isChordSign_31 : decode cX9_isChordSign 31 = .ok (.iconst 0, 1) := by decide +kernel
theorem dX9_isChordSign_32 : decode cX9_isChordSign 32 = .ok (.putfield 123, 3) := by decide +kernel
theorem dX9_isChordSign_35 : decode cX9_isChordSign 35 = .ok (.iconst 1, 1) := by decide +kernel
theorem dX9_isChordSign_36 : decode cX9_isChordSign 36 = .ok (.ireturn, 1) := by decide +kernel
theorem dX9_isChordSign_37 : decode cX9_isChordSign 37 = .ok (.aload_n 0, 1) := by decide +kernel
theorem dX9_isChordSign_38 : decode cX9_isChordSign 38 = .ok (.dup, 1) := by decide +kernel
theorem dX9_isChordSign_39 : decode cX9_isChordSign 39 = .ok (.getfield 123, 3) := by decide +kernel
theorem dX9_isChordSign_42 : decode cX9_isChordSign 42 = .ok (.iconst 1, 1) := by decide +kernel
theorem dX9_isChordSign_43 : decode cX9_isChordSign 43 = .ok (.iadd, 1) := by decide +kernel
theorem dX9_isChordSign_44 : decode cX9_isChordSign 44 = .ok (.putfield 123, 3) := by decide +kernel
theorem dX9_isChordSign_47 : decode cX9_isChordSign 47 = .ok (.aload_n 0, 1) := by decide +kernel
theorem dX9_isChordSign_48 : decode cX9_isChordSign 48 = .ok (.getfield 123, 3) := by decide +kernel
theorem dX9_isChordSign_51 : decode cX9_isChordSign 51 = .ok (.iconst 1, 1) := by decide +kernel
theorem dX9_isChordSign_52 : decode cX9_isChordSign 52 = .ok (.if_icmp .ne 48, 3) := by decide +kernel
theorem dX9_isChordSign_55 : decode cX9_isChordSign 55 = .ok (.iload_n 2, 1) := by decide +kernel
theorem dX9_isChordSign_56 : decode cX9_isChordSign 56 = .ok (.invokestatic 129, 3) := by decide +kernel
theorem dX9_isChordSign_59 : decode cX9_isChordSign 59 = .ok (.iconst (-1), 1) := by decide +kernel
theorem dX9_isChordSign_60 : decode cX9_isChordSign 60 = .ok (.if_icmp .ne 5, 3) := by decide +kernel
theorem dX9_isChordSign_63 : decode cX9_isChordSign 63 = .ok (.iconst 0, 1) := by decide +kernel
theorem dX9_isChordSign_64 : decode cX9_isChordSign 64 = .ok (.ireturn, 1) := by decide +kernel
theorem dX9_isChordSign_65 : decode cX9_isChordSign 65 = .ok (.aload_n 0, 1) := by decide +kernel
theorem dX9_isChordSign_66 : decode cX9_isChordSign 66 = .ok (.getfield 44, 3) := by decide +kernel
theorem dX9_isChordSign_69 : decode cX9_isChordSign 69 = .ok (.aload_n 0, 1) := by decide +kernel
theorem dX9_isChordSign_70 : decode cX9_isChordSign 70 = .ok (.getfield 126, 3) := by decide +kernel
theorem dX9_isChordSign_73 : decode cX9_isChordSign 73 = .ok (.iload_n 2, 1) := by decide +kernel
theorem dX9_isChordSign_74 : decode cX9_isChordSign 74 = .ok (.invokestatic 129, 3) := by decide +kernel
theorem dX9_isChordSign_77 : decode cX9_isChordSign 77 = .ok (.iastore, 1) := by decide +kernel
theorem dX9_isChordSign_78 : decode cX9_isChordSign 78 = .ok (.aload_n 0, 1) := by decide +kernel
theorem dX9_isChordSign_79 : decode cX9_isChordSign 79 = .ok (.getfield 47, 3) := by decide +kernel
theorem dX9_isChordSign_82 : decode cX9_isChordSign 82 = .ok (.aload_n 0, 1) := by decide +kernel
theorem dX9_isChordSign_83 : decode cX9_isChordSign 83 = .ok (.getfield 126, 3) := by decide +kernel
theorem dX9_isChordSign_86 : decode cX9_isChordSign 86 = .ok (.iconst 0, 1) := by decide +kernel
theorem dX9_isChordSign_87 : decode cX9_isChordSign 87 = .ok (.iastore, 1) := by decide +kernel
theorem dX9_isChordSign_88 : decode cX9_isChordSign 88 = .ok (.aload_n 0, 1) := by decide +kernel
theorem dX9_isChordSign_89 : decode cX9_isChordSign 89 = .ok (.dup, 1) := by decide +kernel
theorem dX9_isChordSign_90 : decode cX9_isChordSign 90 = .ok (.getfield 126, 3) := by decide +kernel
theorem dX9_isChordSign_93 : decode cX9_isChordSign 93 = .ok (.iconst 1, 1) := by decide +kernel
theorem dX9_isChordSign_94 : decode cX9_isChordSign 94 = .ok (.iadd, 1) := by decide +kernel
theorem dX9_isChordSign_95 : decode cX9_isChordSign 95 = .ok (.putfield 126, 3) := by decide +kernel
theorem dX9_isChordSign_98 : decode cX9_isChordSign 98 = .ok (.iconst 1, 1) := by decide +kernel
theorem dX9_isChordSign_99 : decode cX9_isChordSign 99 = .ok (.ireturn, 1) := by decide +kernel
theorem dX9_isChordSign_100 : decode cX9_isChordSign 100 = .ok (.iload_n 2, 1) := by decide +kernel
theorem dX9_isChordSign_101 : decode cX9_isChordSign 101 = .ok (.i2l, 1) := by decide +kernel
theorem dX9_isChordSign_102 : decode cX9_isChordSign 102 = .ok (.ldc2_w 133, 3) := by decide +kernel
theorem dX9_isChordSign_105 : decode cX9_isChordSign 105 = .ok (.ldc2_w 135, 3) := by decide +kernel
theorem dX9_isChordSign_108 : decode cX9_isChordSign 108 = .ok (.invokestatic 102, 3) := by decide +kernel
theorem dX9_isChordSign_111 : decode cX9_isChordSign 111 = .ok (.ifCond .eq 35, 3) := by decide +kernel
theorem dX9_isChordSign_114 : decode cX9_isChordSign 114 = .ok (.aload_n 0, 1) := by decide +kernel
theorem dX9_isChordSign_115 : decode cX9_isChordSign 115 = .ok (.getfield 123, 3) := by decide +kernel
theorem dX9_isChordSign_118 : decode cX9_isChordSign 118 = .ok (.iconst 5, 1) := by decide +kernel
theorem dX9_isChordSign_119 : decode cX9_isChordSign 119 = .ok (.if_icmp .gt 27, 3) := by decide +kernel
theorem dX9_isChordSign_122 : decode cX9_isChordSign 122 = .ok (.aload_n 0, 1) := by decide +kernel
theorem dX9_isChordSign_123 : decode cX9_isChordSign 123 = .ok (.getfield 123, 3) := by decide +kernel
theorem dX9_isChordSign_126 : decode cX9_isChordSign 126 = .ok (.iconst 2, 1) := by decide +kernel
theorem dX9_isChordSign_127 : decode cX9_isChordSign 127 = .ok (.if_icmp .eq 15, 3) := by decide +kernel
theorem dX9_isChordSign_130 : decode cX9_isChordSign 130 = .ok (.iload_n 2, 1) := by decide +kernel
theorem dX9_isChordSign_131 : decode cX9_isChordSign 131 = .ok (.aload_n 0, 1) := by decide +kernel
theorem dX9_isChordSign_132 : decode cX9_isChordSign 132 = .ok (.getfield 41, 3) := by decide +kernel
theorem dX9_isChordSign_135 : decode cX9_isChordSign 135 = .ok (.iload_n 1, 1) := by decide +kernel
theorem dX9_isChordSign_136 : decode cX9_isChordSign 136 = .ok (.iconst 1, 1) := by decide +kernel
theorem dX9_isChordSign_137 : decode cX9_isChordSign 137 = .ok (.isub, 1) := by decide +kernel
theorem dX9_isChordSign_138 : decode cX9_isChordSign 138 = .ok (.iaload, 1) := by decide +kernel
theorem dX9_isChordSign_139 : decode cX9_isChordSign 139 = .ok (.if_icmp .le 7, 3) := by decide +kernel
theorem dX9_isChordSign_142 : decode cX9_isChordSign 142 = .ok (.iconst 1, 1) := by decide +kernel
theorem dX9_isChordSign_143 : decode cX9_isChordSign 143 = .ok (.goto 4, 3) := by decide +kernel
theorem dX9_isChordSign_146 : decode cX9_isChordSign 146 = .ok (.iconst 0, 1) := by decide +kernel
theorem dX9_isChordSign_147 : decode cX9_isChordSign 147 = .ok (.istore_n 3, 1) := by decide +kernel
theorem dX9_isChordSign_148 : decode cX9_isChordSign 148 = .ok (.aload_n 0, 1) := by decide +kernel
theorem dX9_isChordSign_149 : decode cX9_isChordSign 149 = .ok (.getfield 47, 3) := by decide +kernel
theorem dX9_isChordSign_152 : decode cX9_isChordSign 152 = .ok (.aload_n 0, 1) := by decide +kernel
theorem dX9_isChordSign_153 : decode cX9_isChordSign 153 = .ok (.getfield 126, 3) := by decide +kernel
theorem dX9_isChordSign_156 : decode cX9_isChordSign 156 = .ok (.iconst 1, 1) := by decide +kernel
theorem dX9_isChordSign_157 : decode cX9_isChordSign 157 = .ok (.isub, 1) := by decide +kernel
theorem dX9_isChordSign_158 : decode cX9_isChordSign 158 = .ok (.dup2, 1) := by decide +kernel
theorem dX9_isChordSign_159 : decode cX9_isChordSign 159 = .ok (.iaload, 1) := by decide +kernel
theorem dX9_isChordSign_160 : decode cX9_isChordSign 160 = .ok (.iload_n 3, 1) := by decide +kernel
theorem dX9_isChordSign_161 : decode cX9_isChordSign 161 = .ok (.ifCond .eq 12, 3) := by decide +kernel
theorem dX9_isChordSign_164 : decode cX9_isChordSign 164 = .ok (.iconst 1, 1) := by decide +kernel
theorem dX9_isChordSign_165 : decode cX9_isChordSign 165 = .ok (.iload_n 2, 1) := by decide +kernel
theorem dX9_isChordSign_166 : decode cX9_isChordSign 166 = .ok (.bipush 97, 2) := by decide +kernel
theorem dX9_isChordSign_168 : decode cX9_isChordSign 168 = .ok (.isub, 1) := by decide +kernel
theorem dX9_isChordSign_169 : decode cX9_isChordSign 169 = .ok (.ishl, 1) := by decide +kernel
theorem dX9_isChordSign_170 : decode cX9_isChordSign 170 = .ok (.goto 4, 3) := by decide +kernel
theorem dX9_isChordSign_173 : decode cX9_isChordSign 173 = .ok (.iconst 0, 1) := by decide +kernel
theorem dX9_isChordSign_174 : decode cX9_isChordSign 174 = .ok (.ior, 1) := by decide +kernel
theorem dX9_isChordSign_175 : decode cX9_isChordSign 175 = .ok (.iastore, 1) := by decide +kernel
theorem dX9_isChordSign_176 : decode cX9_isChordSign 176 = .ok (.iload_n 3, 1) := by decide +kernel
theorem dX9_isChordSign_177 : decode cX9_isChordSign 177 = .ok (.ireturn, 1) := by decide +kernel
set_option maxRecDepth 20000 in
theorem ggX9_isGood_X9_in : GoodIn wsX9_isGood wsX9_in := goodIn_r _ [7] (by decide +kernel) (by decide +kernel)
set_option maxRecDepth 20000 in
theorem gX9_isGood_X9_in : GoodIn wsX9_isGood (va_wsS RX9 102 yX9_in wsX9_in) := goodIn_app (goodIn_of _ (by decide +kernel)) ggX9_isGood_X9_in
set_option maxRecDepth 20000 in
theorem ggX9_isGood_X9_isChordSign : GoodIn wsX9_isGood wsX9_isChordSign := goodIn_r _ [11, 1, 12, 13, 14, 15, 16, 17, 18, 19, 6, 20, 4, 5, 7, 21, 22, 23, 24, 25, 26, 27, 28, 29, 30, 31, 32, 33, 34, 35, 36, 37, 38, 39, 40, 41, 42, 43, 44, 45, 46, 47, 48, 49, 50, 51, 52, 53, 54, 55, 56, 57, 58, 59, 60, 61, 62, 63, 64] (by decide +kernel) (by decide +kernel)
set_option maxRecDepth 20000 in
theorem gX9_isGood_X9_isChordSign : GoodIn wsX9_isGood (wsV RX9 141 RX9 yX9_isChordSign wsX9_isChordSign) := goodIn_app (goodIn_of _ (by decide +kernel)) ggX9_isGood_X9_isChordSign
theorem dX9_isGood_0 : decode cX9_isGood 0 = .ok (.aload_n 0, 1) := by decide +kernel
theorem dX9_isGood_1 : decode cX9_isGood 1 = .ok (.getfield 41, 3) := by decide +kernel
theorem dX9_isGood_4 : decode cX9_isGood 4 = .ok (.iload_n 1, 1) := by decide +kernel
theorem dX9_isGood_5 : decode cX9_isGood 5 = .ok (.iaload, 1) := by decide +kernel
theorem dX9_isGood_6 : decode cX9_isGood 6 = .ok (.istore_n 2, 1) := by decide +kernel
theorem dX9_isGood_7 : decode cX9_isGood 7 = .ok (.iload_n 1, 1) := by decide +kernel
theorem dX9_isGood_8 : decode cX9_isGood 8 = .ok (.bipush 7, 2) := by decide +kernel
theorem dX9_isGood_10 : decode cX9_isGood 10 = .ok (.if_icmp .ge 15, 3) := by decide +kernel
theorem dX9_isGood_13 : decode cX9_isGood 13 = .ok (.iload_n 2, 1) := by decide +kernel
theorem dX9_isGood_14 : decode cX9_isGood 14 = .ok (.i2l, 1) := by decide +kernel
theorem dX9_isGood_15 : decode cX9_isGood 15 = .ok (.ldc2_w 137, 3) := by decide +kernel
theorem dX9_isGood_18 : decode cX9_isGood 18 = .ok (.ldc2_w 139, 3) := by decide +kernel
theorem dX9_isGood_21 : decode cX9_isGood 21 = .ok (.invokestatic 102, 3) := by decide +kernel
theorem dX9_isGood_24 : decode cX9_isGood 24 = .ok (.ireturn, 1) := by decide +kernel
theorem dX9_isGood_25 : decode cX9_isGood 25 = .ok (.iload_n 1, 1) := by decide +kernel
theorem dX9_isGood_26 : decode cX9_isGood 26 = .ok (.bipush 7, 2) := by decide +kernel
theorem dX9_isGood_28 : decode cX9_isGood 28 = .ok (.if_icmp .ne 17, 3) := by decide +kernel
theorem dX9_isGood_31 : decode cX9_isGood 31 = .ok (.iload_n 2, 1) := by decide +kernel
theorem dX9_isGood_32 : decode cX9_isGood 32 = .ok (.bipush 59, 2) := by decide +kernel
theorem dX9_isGood_34 : decode cX9_isGood 34 = .ok (.if_icmp .ne 7, 3) := by decide +kernel
theorem dX9_isGood_37 : decode cX9_isGood 37 = .ok (.iconst 1, 1) := by decide +kernel
theorem dX9_isGood_38 : decode cX9_isGood 38 = .ok (.goto 12, 3) := by decide +kernel
theorem dX9_isGood_41 : decode cX9_isGood 41 = .ok (.iconst 0, 1) := by decide +kernel
theorem dX9_isGood_42 : decode cX9_isGood 42 = .ok (.goto 8, 3) := by decide +kernel
theorem dX9_isGood_45 : decode cX9_isGood 45 = .ok (.aload_n 0, 1) := by decide +kernel
theorem dX9_isGood_46 : decode cX9_isGood 46 = .ok (.iload_n 1, 1) := by decide +kernel
theorem dX9_isGood_47 : decode cX9_isGood 47 = .ok (.invokevirtual 141, 3) := by decide +kernel
theorem dX9_isGood_50 : decode cX9_isGood 50 = .ok (.ireturn, 1) := by decide +kernel
set_option maxRecDepth 20000 in
theorem ggX9_faultOf_X9_isGood : GoodIn wsX9_faultOf wsX9_isGood := goodIn_r _ [8, 9, 10, 11, 12, 13, 7, 14, 15, 16, 17, 18, 2, 1, 19, 20, 21, 22, 23, 24, 25, 26, 27, 28, 29, 30, 31, 32, 33, 34, 35, 36, 37, 38, 39, 40, 41, 42, 43, 44, 45, 46, 47, 48, 49, 50, 51, 52, 53, 54, 55, 56, 57, 58, 59, 60, 61, 62, 63, 64, 65, 66, 67, 68, 69] (by decide +kernel) (by decide +kernel)
set_option maxRecDepth 20000 in
theorem gX9_faultOf_X9_isGood : GoodIn wsX9_faultOf (wsV RX9 145 RX9 yX9_isGood wsX9_isGood) := goodIn_app (goodIn_of _ (by decide +kernel)) ggX9_faultOf_X9_isGood
theorem dX9_faultOf_0 : decode cX9_faultOf 0 = .ok (.aload_n 0, 1) := by decide +kernel
theorem dX9_faultOf_1 : decode cX9_faultOf 1 = .ok (.iconst 0, 1) := by decide +kernel
theorem dX9_faultOf_2 : decode cX9_faultOf 2 = .ok (.putfield 126, 3) := by decide +kernel
theorem dX9_faultOf_5 : decode cX9_faultOf 5 = .ok (.aload_n 0, 1) := by decide +kernel
theorem dX9_faultOf_6 : decode cX9_faultOf 6 = .ok (.iconst 0, 1) := by decide +kernel
theorem dX9_faultOf_7 : decode cX9_faultOf 7 = .ok (.putfield 123, 3) := by decide +kernel
theorem dX9_faultOf_10 : decode cX9_faultOf 10 = .ok (.iconst 0, 1) := by decide +kernel
theorem dX9_faultOf_11 : decode cX9_faultOf 11 = .ok (.istore_n 1, 1) := by decide +kernel
theorem dX9_faultOf_12 : decode cX9_faultOf 12 = .ok (.iload_n 1, 1) := by decide +kernel
theorem dX9_faultOf_13 : decode cX9_faultOf 13 = .ok (.aload_n 0, 1) := by decide +kernel
theorem dX9_faultOf_14 : decode cX9_faultOf 14 = .ok (.getfield 120, 3) := by decide +kernel
theorem dX9_faultOf_17 : decode cX9_faultOf 17 = .ok (.if_icmp .ge 17, 3) := by decide +kernel
theorem dX9_faultOf_20 : decode cX9_faultOf 20 = .ok (.aload_n 0, 1) := by decide +kernel
theorem dX9_faultOf_21 : decode cX9_faultOf 21 = .ok (.iload_n 1, 1) := by decide +kernel
theorem dX9_faultOf_22 : decode cX9_faultOf 22 = .ok (.invokevirtual 145, 3) := by decide +kernel
theorem dX9_faultOf_25 : decode cX9_faultOf 25 = .ok (.ifCond .eq 9, 3) := by decide +kernel
theorem dX9_faultOf_28 : decode cX9_faultOf 28 = .ok (.iinc 1 1, 3) := by decide +kernel
theorem dX9_faultOf_31 : decode cX9_faultOf 31 = .ok (.goto (-19), 3) := by decide +kernel
theorem dX9_faultOf_34 : decode cX9_faultOf 34 = .ok (.iload_n 1, 1) := by decide +kernel
theorem dX9_faultOf_35 : decode cX9_faultOf 35 = .ok (.ireturn, 1) := by decide +kernel
set_option maxRecDepth 20000 in
theorem ggX9_fault_X9_faultOf : GoodIn wsX9_fault wsX9_faultOf := goodIn_r _ [5, 6, 7, 8, 9, 10, 11, 4, 12, 13, 14, 15, 16, 17, 18, 19, 20, 21, 22, 23, 24, 25, 26, 27, 28, 29, 30, 31, 32, 33, 34, 35, 36, 37, 38, 39, 40, 41, 42, 43, 44, 45, 46, 47, 48, 49, 50, 51, 52, 53, 54, 55, 56, 57, 58, 59, 60, 61, 62, 63, 64, 65, 66, 67, 68, 69, 70, 71, 72, 73] (by decide +kernel) (by decide +kernel)
set_option maxRecDepth 20000 in
theorem gX9_fault_X9_faultOf : GoodIn wsX9_fault (wsV RX9 148 RX9 yX9_faultOf wsX9_faultOf) := goodIn_app (goodIn_of _ (by decide +kernel)) ggX9_fault_X9_faultOf
theorem dX9_fault_0 : decode cX9_fault 0 = .ok (.aload_n 0, 1) := by decide +kernel
theorem dX9_fault_1 : decode cX9_fault 1 = .ok (.invokevirtual 148, 3) := by decide +kernel
theorem dX9_fault_4 : decode cX9_fault 4 = .ok (.ireturn, 1) := by decide +kernel
set_option maxRecDepth 20000 in
theorem ggX9_part_X9_faultOf : GoodIn wsX9_part wsX9_faultOf := goodIn_r _ [18, 5, 2, 1, 19, 20, 21, 17, 22, 4, 23, 24, 25, 26, 27, 28, 29, 30, 31, 7, 9, 32, 33, 34, 35, 36, 40, 41, 42, 43, 44, 45, 46, 47, 48, 49, 50, 51, 52, 53, 54, 55, 56, 57, 58, 59, 60, 61, 62, 63, 64, 65, 66, 67, 68, 69, 70, 71, 72, 73, 74, 75, 76, 77, 78, 79, 80, 81, 82, 83] (by decide +kernel) (by decide +kernel)
set_option maxRecDepth 20000 in
theorem gX9_part_X9_faultOf : GoodIn wsX9_part (wsV RX9 148 RX9 yX9_faultOf wsX9_faultOf) := goodIn_app (goodIn_of _ (by decide +kernel)) ggX9_part_X9_faultOf
set_option maxRecDepth 20000 in
theorem ggX9_part_X9_copy : GoodIn wsX9_part wsX9_copy := goodIn_r _ [39] (by decide +kernel) (by decide +kernel)
set_option maxRecDepth 20000 in
theorem gX9_part_X9_copy : GoodIn wsX9_part (va_wsS RX9 158 yX9_copy wsX9_copy) := goodIn_app (goodIn_of _ (by decide +kernel)) ggX9_part_X9_copy
theorem dX9_part_0 : decode cX9_part 0 = .ok (.aload_n 0, 1) := by decide +kernel
theorem dX9_part_1 : decode cX9_part 1 = .ok (.invokevirtual 148, 3) := by decide +kernel
theorem dX9_part_4 : decode cX9_part 4 = .ok (.aload_n 0, 1) := by decide +kernel
theorem dX9_part_5 : decode cX9_part 5 = .ok (.getfield 120, 3) := by decide +kernel
theorem dX9_part_8 : decode cX9_part 8 = .ok (.if_icmp .lt 11, 3) := by decide +kernel
theorem dX9_part_11 : decode cX9_part 11 = .ok (.aload_n 0, 1) := by decide +kernel
theorem dX9_part_12 : decode cX9_part 12 = .ok (.getfield 123, 3) := by decide +kernel
theorem dX9_part_15 : decode cX9_part 15 = .ok (.iconst 2, 1) := by decide +kernel
theorem dX9_part_16 : decode cX9_part 16 = .ok (.if_icmp .ge 6, 3) := by decide +kernel
theorem dX9_part_19 : decode cX9_part 19 = .ok (.bipush (-103), 2) := by decide +kernel
theorem dX9_part_21 : decode cX9_part 21 = .ok (.ireturn, 1) := by decide +kernel
theorem dX9_part_22 : decode cX9_part 22 = .ok (.aload_n 0, 1) := by decide +kernel
theorem dX9_part_23 : decode cX9_part 23 = .ok (.iconst 0, 1) := by decide +kernel
theorem dX9_part_24 : decode cX9_part 24 = .ok (.putfield 152, 3) := by decide +kernel
theorem dX9_part_27 : decode cX9_part 27 = .ok (.iconst 0, 1) := by decide +kernel
theorem dX9_part_28 : decode cX9_part 28 = .ok (.istore_n 1, 1) := by decide +kernel
theorem dX9_part_29 : decode cX9_part 29 = .ok (.iload_n 1, 1) := by decide +kernel
theorem dX9_part_30 : decode cX9_part 30 = .ok (.bipush 7, 2) := by decide +kernel
theorem dX9_part_32 : decode cX9_part 32 = .ok (.if_icmp .ge 29, 3) := by decide +kernel
theorem dX9_part_35 : decode cX9_part 35 = .ok (.aload_n 0, 1) := by decide +kernel
theorem dX9_part_36 : decode cX9_part 36 = .ok (.iconst 3, 1) := by decide +kernel
theorem dX9_part_37 : decode cX9_part 37 = .ok (.aload_n 0, 1) := by decide +kernel
theorem dX9_part_38 : decode cX9_part 38 = .ok (.getfield 152, 3) := by decide +kernel
theorem dX9_part_41 : decode cX9_part 41 = .ok (.imul, 1) := by decide +kernel
theorem dX9_part_42 : decode cX9_part 42 = .ok (.aload_n 0, 1) := by decide +kernel
theorem dX9_part_43 : decode cX9_part 43 = .ok (.getfield 41, 3) := by decide +kernel
theorem dX9_part_46 : decode cX9_part 46 = .ok (.iload_n 1, 1) := by decide +kernel
theorem dX9_part_47 : decode cX9_part 47 = .ok (.iaload, 1) := by decide +kernel
theorem dX9_part_48 : decode cX9_part 48 = .ok (.iadd, 1) := by decide +kernel
theorem dX9_part_49 : decode cX9_part 49 = .ok (.bipush 48, 2) := by decide +kernel
theorem dX9_part_51 : decode cX9_part 51 = .ok (.isub, 1) := by decide +kernel
theorem dX9_part_52 : decode cX9_part 52 = .ok (.putfield 152, 3) := by decide +kernel
theorem dX9_part_55 : decode cX9_part 55 = .ok (.iinc 1 1, 3) := by decide +kernel
theorem dX9_part_58 : decode cX9_part 58 = .ok (.goto (-29), 3) := by decide +kernel
theorem dX9_part_61 : decode cX9_part 61 = .ok (.aload_n 0, 1) := by decide +kernel
theorem dX9_part_62 : decode cX9_part 62 = .ok (.aload_n 0, 1) := by decide +kernel
theorem dX9_part_63 : decode cX9_part 63 = .ok (.getfield 126, 3) := by decide +kernel
theorem dX9_part_66 : decode cX9_part 66 = .ok (.putfield 155, 3) := by decide +kernel
theorem dX9_part_69 : decode cX9_part 69 = .ok (.aload_n 0, 1) := by decide +kernel
theorem dX9_part_70 : decode cX9_part 70 = .ok (.getfield 44, 3) := by decide +kernel
theorem dX9_part_73 : decode cX9_part 73 = .ok (.aload_n 0, 1) := by decide +kernel
theorem dX9_part_74 : decode cX9_part 74 = .ok (.getfield 50, 3) := by decide +kernel
theorem dX9_part_77 : decode cX9_part 77 = .ok (.invokestatic 158, 3) := by decide +kernel
theorem dX9_part_80 : decode cX9_part 80 = .ok (.aload_n 0, 1) := by decide +kernel
theorem dX9_part_81 : decode cX9_part 81 = .ok (.getfield 47, 3) := by decide +kernel
theorem dX9_part_84 : decode cX9_part 84 = .ok (.aload_n 0, 1) := by decide +kernel
theorem dX9_part_85 : decode cX9_part 85 = .ok (.getfield 53, 3) := by decide +kernel
theorem dX9_part_88 : decode cX9_part 88 = .ok (.invokestatic 158, 3) := by decide +kernel
theorem dX9_part_91 : decode cX9_part 91 = .ok (.aload_n 0, 1) := by decide +kernel
theorem dX9_part_92 : decode cX9_part 92 = .ok (.iconst 0, 1) := by decide +kernel
theorem dX9_part_93 : decode cX9_part 93 = .ok (.putfield 162, 3) := by decide +kernel
theorem dX9_part_96 : decode cX9_part 96 = .ok (.aload_n 0, 1) := by decide +kernel
theorem dX9_part_97 : decode cX9_part 97 = .ok (.dup, 1) := by decide +kernel
theorem dX9_part_98 : decode cX9_part 98 = .ok (.getfield 165, 3) := by decide +kernel
theorem dX9_part_101 : decode cX9_part 101 = .ok (.iconst 1, 1) := by decide +kernel
theorem dX9_part_102 : decode cX9_part 102 = .ok (.iadd, 1) := by decide +kernel
theorem dX9_part_103 : decode cX9_part 103 = .ok (.putfield 165, 3) := by decide +kernel
theorem dX9_part_106 : decode cX9_part 106 = .ok (.aload_n 0, 1) := by decide +kernel
theorem dX9_part_107 : decode cX9_part 107 = .ok (.iconst 0, 1) := by decide +kernel
theorem dX9_part_108 : decode cX9_part 108 = .ok (.putfield 120, 3) := by decide +kernel
theorem dX9_part_111 : decode cX9_part 111 = .ok (.aload_n 0, 1) := by decide +kernel
theorem dX9_part_112 : decode cX9_part 112 = .ok (.iconst 1, 1) := by decide +kernel
theorem dX9_part_113 : decode cX9_part 113 = .ok (.putfield 168, 3) := by decide +kernel
theorem dX9_part_116 : decode cX9_part 116 = .ok (.aload_n 0, 1) := by decide +kernel
theorem dX9_part_117 : decode cX9_part 117 = .ok (.getfield 155, 3) := by decide +kernel
theorem dX9_part_120 : decode cX9_part 120 = .ok (.ireturn, 1) := by decide +kernel
theorem dX9_lacks_0 : decode cX9_lacks 0 = .ok (.aload_n 0, 1) := by decide +kernel
theorem dX9_lacks_1 : decode cX9_lacks 1 = .ok (.getfield 155, 3) := by decide +kernel
theorem dX9_lacks_4 : decode cX9_lacks 4 = .ok (.ifCond .ne 7, 3) := by decide +kernel
theorem dX9_lacks_7 : decode cX9_lacks 7 = .ok (.iconst 1, 1) := by decide +kernel
theorem dX9_lacks_8 : decode cX9_lacks 8 = .ok (.goto 4, 3) := by decide +kernel
theorem dX9_lacks_11 : decode cX9_lacks 11 = .ok (.iconst 0, 1) := by decide +kernel
theorem dX9_lacks_12 : decode cX9_lacks 12 = .ok (.ireturn, 1) := by decide +kernel
set_option maxRecDepth 20000 in
theorem ggX9_isChord_X9_in : GoodIn wsX9_isChord wsX9_in := goodIn_r _ [5] (by decide +kernel) (by decide +kernel)
set_option maxRecDepth 20000 in
theorem gX9_isChord_X9_in : GoodIn wsX9_isChord (va_wsS RX9 102 yX9_in wsX9_in) := goodIn_app (goodIn_of _ (by decide +kernel)) ggX9_isChord_X9_in
theorem dX9_isChord_0 : decode cX9_isChord 0 = .ok (.iload_n 1, 1) := by decide +kernel
theorem dX9_isChord_1 : decode cX9_isChord 1 = .ok (.i2l, 1) := by decide +kernel
theorem dX9_isChord_2 : decode cX9_isChord 2 = .ok (.lconst 0, 1) := by decide +kernel
theorem dX9_isChord_3 : decode cX9_isChord 3 = .ok (.aload_n 0, 1) := by decide +kernel
theorem dX9_isChord_4 : decode cX9_isChord 4 = .ok (.getfield 155, 3) := by decide +kernel
theorem dX9_isChord_7 : decode cX9_isChord 7 = .ok (.iconst 1, 1) := by decide +kernel
theorem dX9_isChord_8 : decode cX9_isChord 8 = .ok (.isub, 1) := by decide +kernel
theorem dX9_isChord_9 : decode cX9_isChord 9 = .ok (.i2l, 1) := by decide +kernel
theorem dX9_isChord_10 : decode cX9_isChord 10 = .ok (.invokestatic 102, 3) := by decide +kernel
theorem dX9_isChord_13 : decode cX9_isChord 13 = .ok (.ireturn, 1) := by decide +kernel
set_option maxRecDepth 20000 in
theorem ggX9_isFitting_X9_toneIn : GoodIn wsX9_isFitting wsX9_toneIn := goodIn_r _ [5, 6, 7, 8, 9, 10, 11, 12, 13, 14, 15, 16, 17, 18, 19, 20, 21, 22, 23, 24, 25, 26, 27, 28, 29, 30, 31, 32, 33, 34, 35, 36, 37, 38, 39, 40, 41, 42, 43, 44, 45, 46, 47, 48, 49, 50] (by decide +kernel) (by decide +kernel)
set_option maxRecDepth 20000 in
theorem gX9_isFitting_X9_toneIn : GoodIn wsX9_isFitting (wsV RX9 115 RX9 yX9_toneIn wsX9_toneIn) := goodIn_app (goodIn_of _ (by decide +kernel)) ggX9_isFitting_X9_toneIn
theorem dX9_isFitting_0 : decode cX9_isFitting 0 = .ok (.iconst 0, 1) := by decide +kernel
theorem dX9_isFitting_1 : decode cX9_isFitting 1 = .ok (.istore 4, 2) := by decide +kernel
theorem dX9_isFitting_3 : decode cX9_isFitting 3 = .ok (.iconst 0, 1) := by decide +kernel
theorem dX9_isFitting_4 : decode cX9_isFitting 4 = .ok (.istore 5, 2) := by decide +kernel
theorem dX9_isFitting_6 : decode cX9_isFitting 6 = .ok (.iload 5, 2) := by decide +kernel
theorem dX9_isFitting_8 : decode cX9_isFitting 8 = .ok (.bipush 7, 2) := by decide +kernel
theorem dX9_isFitting_10 : decode cX9_isFitting 10 = .ok (.if_icmp .ge 23, 3) := by decide +kernel
theorem dX9_isFitting_13 : decode cX9_isFitting 13 = .ok (.iload 4, 2) := by decide +kernel
theorem dX9_isFitting_15 : decode cX9_isFitting 15 = .ok (.iconst 1, 1) := by decide +kernel
theorem dX9_isFitting_16 : decode cX9_isFitting 16 = .ok (.aload_n 0, 1) := by decide +kernel
theorem dX9_isFitting_17 : decode cX9_isFitting 17 = .ok (.iload_n 1, 1) := by decide +kernel
theorem dX9_isFitting_18 : decode cX9_isFitting 18 = .ok (.iload 5, 2) := by decide +kernel
theorem dX9_isFitting_20 : decode cX9_isFitting 20 = .ok (.invokevirtual 115, 3) := by decide +kernel
theorem dX9_isFitting_23 : decode cX9_isFitting 23 = .ok (.ishl, 1) := by decide +kernel
theorem dX9_isFitting_24 : decode cX9_isFitting 24 = .ok (.ior, 1) := by decide +kernel
theorem dX9_isFitting_25 : decode cX9_isFitting 25 = .ok (.istore 4, 2) := by decide +kernel
theorem dX9_isFitting_27 : decode cX9_isFitting 27 = .ok (.iinc 5 1, 3) := by decide +kernel
theorem dX9_isFitting_30 : decode cX9_isFitting 30 = .ok (.goto (-24), 3) := by decide +kernel
theorem dX9_isFitting_33 : decode cX9_isFitting 33 = .ok (.iload_n 3, 1) := by decide +kernel
theorem dX9_isFitting_34 : decode cX9_isFitting 34 = .ok (.iload 4, 2) := by decide +kernel
theorem dX9_isFitting_36 : decode cX9_isFitting 36 = .ok (.iconst (-1), 1) := by decide +kernel
theorem dX9_isFitting_37 : decode cX9_isFitting 37 = .ok (.ixor, 1) := by decide +kernel
theorem dX9_isFitting_38 : decode cX9_isFitting 38 = .ok (.iand, 1) := by decide +kernel
theorem dX9_isFitting_39 : decode cX9_isFitting 39 = .ok (.ifCond .ne 18, 3) := by decide +kernel
theorem dX9_isFitting_42 : decode cX9_isFitting 42 = .ok (.iload_n 2, 1) := by decide +kernel
theorem dX9_isFitting_43 : decode cX9_isFitting 43 = .ok (.iconst 1, 1) := by decide +kernel
theorem dX9_isFitting_44 : decode cX9_isFitting 44 = .ok (.if_icmp .ne 9, 3) := by decide +kernel
theorem dX9_isFitting_47 : decode cX9_isFitting 47 = .ok (.iload 4, 2) := by decide +kernel
theorem dX9_isFitting_49 : decode cX9_isFitting 49 = .ok (.iload_n 3, 1) := by decide +kernel
theorem dX9_isFitting_50 : decode cX9_isFitting 50 = .ok (.if_icmp .ne 7, 3) := by decide +kernel
theorem dX9_isFitting_53 : decode cX9_isFitting 53 = .ok (.iconst 1, 1) := by decide +kernel
theorem dX9_isFitting_54 : decode cX9_isFitting 54 = .ok (.goto 4, 3) := by decide +kernel
theorem dX9_isFitting_57 : decode cX9_isFitting 57 = .ok (.iconst 0, 1) := by decide +kernel
theorem dX9_isFitting_58 : decode cX9_isFitting 58 = .ok (.ireturn, 1) := by decide +kernel
theorem dX9_shiftedTones_0 : decode cX9_shiftedTones 0 = .ok (.iload_n 1, 1) := by decide +kernel
theorem dX9_shiftedTones_1 : decode cX9_shiftedTones 1 = .ok (.iload_n 2, 1) := by decide +kernel
theorem dX9_shiftedTones_2 : decode cX9_shiftedTones 2 = .ok (.ishl, 1) := by decide +kernel
theorem dX9_shiftedTones_3 : decode cX9_shiftedTones 3 = .ok (.iload_n 1, 1) := by decide +kernel
theorem dX9_shiftedTones_4 : decode cX9_shiftedTones 4 = .ok (.bipush 12, 2) := by decide +kernel
theorem dX9_shiftedTones_6 : decode cX9_shiftedTones 6 = .ok (.iload_n 2, 1) := by decide +kernel
theorem dX9_shiftedTones_7 : decode cX9_shiftedTones 7 = .ok (.isub, 1) := by decide +kernel
theorem dX9_shiftedTones_8 : decode cX9_shiftedTones 8 = .ok (.ishr, 1) := by decide +kernel
theorem dX9_shiftedTones_9 : decode cX9_shiftedTones 9 = .ok (.ior, 1) := by decide +kernel
theorem dX9_shiftedTones_10 : decode cX9_shiftedTones 10 = .ok (.sipush 4095, 3) := by decide +kernel
theorem dX9_shiftedTones_13 : decode cX9_shiftedTones 13 = .ok (.iand, 1) := by decide +kernel
theorem dX9_shiftedTones_14 : decode cX9_shiftedTones 14 = .ok (.ireturn, 1) := by decide +kernel
set_option maxRecDepth 20000 in
theorem ggX9_layFits_X9_shiftedTones : GoodIn wsX9_layFits wsX9_shiftedTones := goodIn_r _ [9] (by decide +kernel) (by decide +kernel)
set_option maxRecDepth 20000 in
theorem gX9_layFits_X9_shiftedTones : GoodIn wsX9_layFits (wsV RX9 172 RX9 yX9_shiftedTones wsX9_shiftedTones) := goodIn_app (goodIn_of _ (by decide +kernel)) ggX9_layFits_X9_shiftedTones
set_option maxRecDepth 20000 in
theorem ggX9_layFits_X9_isFitting : GoodIn wsX9_layFits wsX9_isFitting := goodIn_r _ [13, 14, 15, 16, 8, 17, 18, 19, 20, 21, 22, 23, 24, 25, 26, 27, 28, 29, 30, 31, 32, 33, 34, 35, 36, 37, 38, 39, 40, 41, 42, 43, 44, 45, 46, 47, 48, 49, 50, 51, 52, 53, 54, 55, 56, 57, 58, 59, 60, 61, 62] (by decide +kernel) (by decide +kernel)
set_option maxRecDepth 20000 in
theorem gX9_layFits_X9_isFitting : GoodIn wsX9_layFits (wsV RX9 175 RX9 yX9_isFitting wsX9_isFitting) := goodIn_app (goodIn_of _ (by decide +kernel)) ggX9_layFits_X9_isFitting
theorem dX9_layFits_0 : decode cX9_layFits 0 = .ok (.iconst 0, 1) := by decide +kernel
theorem dX9_layFits_1 : decode cX9_layFits 1 = .ok (.istore_n 2, 1) := by decide +kernel
theorem dX9_layFits_2 : decode cX9_layFits 2 = .ok (.iload_n 2, 1) := by decide +kernel
theorem dX9_layFits_3 : decode cX9_layFits 3 = .ok (.aload_n 0, 1) := by decide +kernel
theorem dX9_layFits_4 : decode cX9_layFits 4 = .ok (.getfield 155, 3) := by decide +kernel
theorem dX9_layFits_7 : decode cX9_layFits 7 = .ok (.if_icmp .ge 72, 3) := by decide +kernel
theorem dX9_layFits_10 : decode cX9_layFits 10 = .ok (.aload_n 0, 1) := by decide +kernel
theorem dX9_layFits_11 : decode cX9_layFits 11 = .ok (.aload_n 0, 1) := by decide +kernel
theorem dX9_layFits_12 : decode cX9_layFits 12 = .ok (.getfield 53, 3) := by decide +kernel
theorem dX9_layFits_15 : decode cX9_layFits 15 = .ok (.iload_n 2, 1) := by decide +kernel
theorem dX9_layFits_16 : decode cX9_layFits 16 = .ok (.iaload, 1) := by decide +kernel
theorem dX9_layFits_17 : decode cX9_layFits 17 = .ok (.iload_n 1, 1) := by decide +kernel
theorem dX9_layFits_18 : decode cX9_layFits 18 = .ok (.invokevirtual 172, 3) := by decide +kernel
theorem dX9_layFits_21 : decode cX9_layFits 21 = .ok (.istore_n 3, 1) := by decide +kernel
theorem dX9_layFits_22 : decode cX9_layFits 22 = .ok (.iconst 0, 1) := by decide +kernel
theorem dX9_layFits_23 : decode cX9_layFits 23 = .ok (.istore 4, 2) := by decide +kernel
theorem dX9_layFits_25 : decode cX9_layFits 25 = .ok (.iload 4, 2) := by decide +kernel
theorem dX9_layFits_27 : decode cX9_layFits 27 = .ok (.sipush 2187, 3) := by decide +kernel
theorem dX9_layFits_30 : decode cX9_layFits 30 = .ok (.if_icmp .ge 43, 3) := by decide +kernel
theorem dX9_layFits_33 : decode cX9_layFits 33 = .ok (.aload_n 0, 1) := by decide +kernel
theorem dX9_layFits_34 : decode cX9_layFits 34 = .ok (.getfield 56, 3) := by decide +kernel
theorem dX9_layFits_37 : decode cX9_layFits 37 = .ok (.sipush 2187, 3) := by decide +kernel
theorem dX9_layFits_40 : decode cX9_layFits 40 = .ok (.iload_n 2, 1) := by decide +kernel
theorem dX9_layFits_41 : decode cX9_layFits 41 = .ok (.imul, 1) := by decide +kernel
theorem dX9_layFits_42 : decode cX9_layFits 42 = .ok (.iload 4, 2) := by decide +kernel
theorem dX9_layFits_44 : decode cX9_layFits 44 = .ok (.iadd, 1) := by decide +kernel
theorem dX9_layFits_45 : decode cX9_layFits 45 = .ok (.aload_n 0, 1) := by decide +kernel
theorem dX9_layFits_46 : decode cX9_layFits 46 = .ok (.iload 4, 2) := by decide +kernel
theorem dX9_layFits_48 : decode cX9_layFits 48 = .ok (.aload_n 0, 1) := by decide +kernel
theorem dX9_layFits_49 : decode cX9_layFits 49 = .ok (.getfield 50, 3) := by decide +kernel
theorem dX9_layFits_52 : decode cX9_layFits 52 = .ok (.iload_n 2, 1) := by decide +kernel
theorem dX9_layFits_53 : decode cX9_layFits 53 = .ok (.iaload, 1) := by decide +kernel
theorem dX9_layFits_54 : decode cX9_layFits 54 = .ok (.iload_n 3, 1) := by decide +kernel
theorem dX9_layFits_55 : decode cX9_layFits 55 = .ok (.invokevirtual 175, 3) := by decide +kernel
theorem dX9_layFits_58 : decode cX9_layFits 58 = .ok (.ifCond .eq 7, 3) := by decide +kernel
theorem dX9_layFits_61 : decode cX9_layFits 61 = .ok (.iconst 1, 1) := by decide +kernel
theorem dX9_layFits_62 : decode cX9_layFits 62 = .ok (.goto 4, 3) := by decide +kernel
theorem dX9_layFits_65 : decode cX9_layFits 65 = .ok (.iconst 0, 1) := by decide +kernel
theorem dX9_layFits_66 : decode cX9_layFits 66 = .ok (.iastore, 1) := by decide +kernel
theorem dX9_layFits_67 : decode cX9_layFits 67 = .ok (.iinc 4 1, 3) := by decide +kernel
theorem dX9_layFits_70 : decode cX9_layFits 70 = .ok (.goto (-45), 3) := by decide +kernel
theorem dX9_layFits_73 : decode cX9_layFits 73 = .ok (.iinc 2 1, 3) := by decide +kernel
theorem dX9_layFits_76 : decode cX9_layFits 76 = .ok (.goto (-74), 3) := by decide +kernel
theorem dX9_layFits_79 : decode cX9_layFits 79 = .ok (.return_, 1) := by decide +kernel
set_option maxRecDepth 20000 in
theorem ggX9_heldBy_X9_shiftedTones : GoodIn wsX9_heldBy wsX9_shiftedTones := goodIn_r _ [7] (by decide +kernel) (by decide +kernel)
set_option maxRecDepth 20000 in
theorem gX9_heldBy_X9_shiftedTones : GoodIn wsX9_heldBy (wsV RX9 172 RX9 yX9_shiftedTones wsX9_shiftedTones) := goodIn_app (goodIn_of _ (by decide +kernel)) ggX9_heldBy_X9_shiftedTones
theorem dX9_heldBy_0 : decode cX9_heldBy 0 = .ok (.iload_n 1, 1) := by decide +kernel
theorem dX9_heldBy_1 : decode cX9_heldBy 1 = .ok (.ifCond .le 43, 3) := by decide +kernel
theorem dX9_heldBy_4 : decode cX9_heldBy 4 = .ok (.aload_n 0, 1) := by decide +kernel
theorem dX9_heldBy_5 : decode cX9_heldBy 5 = .ok (.getfield 50, 3) := by decide +kernel
theorem dX9_heldBy_8 : decode cX9_heldBy 8 = .ok (.iload_n 1, 1) := by decide +kernel
theorem dX9_heldBy_9 : decode cX9_heldBy 9 = .ok (.iconst 1, 1) := by decide +kernel
theorem dX9_heldBy_10 : decode cX9_heldBy 10 = .ok (.isub, 1) := by decide +kernel
theorem dX9_heldBy_11 : decode cX9_heldBy 11 = .ok (.iaload, 1) := by decide +kernel
theorem dX9_heldBy_12 : decode cX9_heldBy 12 = .ok (.iconst 2, 1) := by decide +kernel
theorem dX9_heldBy_13 : decode cX9_heldBy 13 = .ok (.if_icmp .eq 15, 3) := by decide +kernel
theorem dX9_heldBy_16 : decode cX9_heldBy 16 = .ok (.aload_n 0, 1) := by decide +kernel
theorem dX9_heldBy_17 : decode cX9_heldBy 17 = .ok (.getfield 50, 3) := by decide +kernel
theorem dX9_heldBy_20 : decode cX9_heldBy 20 = .ok (.iload_n 1, 1) := by decide +kernel
theorem dX9_heldBy_21 : decode cX9_heldBy 21 = .ok (.iconst 1, 1) := by decide +kernel
theorem dX9_heldBy_22 : decode cX9_heldBy 22 = .ok (.isub, 1) := by decide +kernel
theorem dX9_heldBy_23 : decode cX9_heldBy 23 = .ok (.iaload, 1) := by decide +kernel
theorem dX9_heldBy_24 : decode cX9_heldBy 24 = .ok (.iconst 4, 1) := by decide +kernel
theorem dX9_heldBy_25 : decode cX9_heldBy 25 = .ok (.if_icmp .ne 19, 3) := by decide +kernel
theorem dX9_heldBy_28 : decode cX9_heldBy 28 = .ok (.aload_n 0, 1) := by decide +kernel
theorem dX9_heldBy_29 : decode cX9_heldBy 29 = .ok (.aload_n 0, 1) := by decide +kernel
theorem dX9_heldBy_30 : decode cX9_heldBy 30 = .ok (.getfield 53, 3) := by decide +kernel
theorem dX9_heldBy_33 : decode cX9_heldBy 33 = .ok (.iload_n 1, 1) := by decide +kernel
theorem dX9_heldBy_34 : decode cX9_heldBy 34 = .ok (.iconst 1, 1) := by decide +kernel
theorem dX9_heldBy_35 : decode cX9_heldBy 35 = .ok (.isub, 1) := by decide +kernel
theorem dX9_heldBy_36 : decode cX9_heldBy 36 = .ok (.iaload, 1) := by decide +kernel
theorem dX9_heldBy_37 : decode cX9_heldBy 37 = .ok (.iload_n 2, 1) := by decide +kernel
theorem dX9_heldBy_38 : decode cX9_heldBy 38 = .ok (.invokevirtual 172, 3) := by decide +kernel
theorem dX9_heldBy_41 : decode cX9_heldBy 41 = .ok (.goto 4, 3) := by decide +kernel
theorem dX9_heldBy_44 : decode cX9_heldBy 44 = .ok (.iconst 0, 1) := by decide +kernel
theorem dX9_heldBy_45 : decode cX9_heldBy 45 = .ok (.ireturn, 1) := by decide +kernel
set_option maxRecDepth 20000 in
theorem ggX9_bestFrom_X9_heldBy : GoodIn wsX9_bestFrom wsX9_heldBy := goodIn_r _ [9, 1, 10, 11, 12, 13, 8, 14, 42, 43, 44, 45, 46, 47, 48, 49, 50, 51, 52, 53, 54, 55, 56, 57, 58, 59, 60, 61, 62, 63, 64, 65, 66, 67, 68, 69, 70, 71, 72, 73, 74, 75, 76, 77, 78, 79, 80, 81, 82, 83, 84, 85] (by decide +kernel) (by decide +kernel)
set_option maxRecDepth 20000 in
theorem gX9_bestFrom_X9_heldBy : GoodIn wsX9_bestFrom (wsV RX9 179 RX9 yX9_heldBy wsX9_heldBy) := goodIn_app (goodIn_of _ (by decide +kernel)) ggX9_bestFrom_X9_heldBy
set_option maxRecDepth 20000 in
theorem ggX9_bestFrom_X9_heldPedals : GoodIn wsX9_bestFrom wsX9_heldPedals := goodIn_r _ [18, 19, 20, 21, 8, 22, 23, 42, 43, 44, 45, 46, 47, 48, 49, 50, 51, 52, 53, 54, 55, 56, 57, 58, 59, 60, 61, 62, 63, 64, 65, 66, 67, 68, 69, 70, 71, 72, 73, 74, 75, 76, 77, 78, 79, 80, 81, 82, 83, 84, 85] (by decide +kernel) (by decide +kernel)
set_option maxRecDepth 20000 in
theorem gX9_bestFrom_X9_heldPedals : GoodIn wsX9_bestFrom (wsV RX9 182 RX9 yX9_heldPedals wsX9_heldPedals) := goodIn_app (goodIn_of _ (by decide +kernel)) ggX9_bestFrom_X9_heldPedals
set_option maxRecDepth 20000 in
theorem ggX9_bestFrom_X9_mostOf : GoodIn wsX9_bestFrom wsX9_mostOf := goodIn_r _ [26] (by decide +kernel) (by decide +kernel)
set_option maxRecDepth 20000 in
theorem gX9_bestFrom_X9_mostOf : GoodIn wsX9_bestFrom (va_wsS RX9 185 yX9_mostOf wsX9_mostOf) := goodIn_app (goodIn_of _ (by decide +kernel)) ggX9_bestFrom_X9_mostOf
set_option maxRecDepth 20000 in
theorem ggX9_bestFrom_X9_can : GoodIn wsX9_bestFrom wsX9_can := goodIn_r _ [30, 31, 32, 42, 43, 44, 45, 46, 47, 48, 49, 50, 51, 52, 53, 54, 55, 56, 57, 58, 59, 60, 61, 62, 63, 64, 65, 66, 67, 68, 69, 70, 71, 72, 73, 74, 75, 76, 77, 78, 79, 80, 81, 82, 83, 84, 85] (by decide +kernel) (by decide +kernel)
set_option maxRecDepth 20000 in
theorem gX9_bestFrom_X9_can : GoodIn wsX9_bestFrom (wsV RX9 189 RX9 yX9_can wsX9_can) := goodIn_app (goodIn_of _ (by decide +kernel)) ggX9_bestFrom_X9_can
set_option maxRecDepth 20000 in
theorem ggX9_bestFrom_X9_after : GoodIn wsX9_bestFrom wsX9_after := goodIn_r _ [36, 37, 42, 43, 44, 45, 46, 47, 48, 49, 50, 51, 52, 53, 54, 55, 56, 57, 58, 59, 60, 61, 62, 63, 64, 65, 66, 67, 68, 69, 70, 71, 72, 73, 74, 75, 76, 77, 78, 79, 80, 81, 82, 83, 84, 85] (by decide +kernel) (by decide +kernel)
set_option maxRecDepth 20000 in
theorem gX9_bestFrom_X9_after : GoodIn wsX9_bestFrom (wsV RX9 192 RX9 yX9_after wsX9_after) := goodIn_app (goodIn_of _ (by decide +kernel)) ggX9_bestFrom_X9_after
set_option maxRecDepth 20000 in
theorem ggX9_bestFrom_X9_movedBy : GoodIn wsX9_bestFrom wsX9_movedBy := goodIn_r _ [41, 31, 42, 43, 44, 45, 46, 47, 48, 49, 50, 51, 52, 53, 54, 55, 56, 57, 58, 59, 60, 61, 62, 63, 64, 65, 66, 67, 68, 69, 70, 71, 72, 73, 74, 75, 76, 77, 78, 79, 80, 81, 82, 83, 84, 85] (by decide +kernel) (by decide +kernel)
set_option maxRecDepth 20000 in
theorem gX9_bestFrom_X9_movedBy : GoodIn wsX9_bestFrom (wsV RX9 195 RX9 yX9_movedBy wsX9_movedBy) := goodIn_app (goodIn_of _ (by decide +kernel)) ggX9_bestFrom_X9_movedBy
theorem dX9_bestFrom_0 : decode cX9_bestFrom 0 = .ok (.aload_n 0, 1) := by decide +kernel
theorem dX9_bestFrom_1 : decode cX9_bestFrom 1 = .ok (.iload_n 1, 1) := by decide +kernel
theorem dX9_bestFrom_2 : decode cX9_bestFrom 2 = .ok (.aload_n 0, 1) := by decide +kernel
theorem dX9_bestFrom_3 : decode cX9_bestFrom 3 = .ok (.iload_n 2, 1) := by decide +kernel
theorem dX9_bestFrom_4 : decode cX9_bestFrom 4 = .ok (.iload_n 3, 1) := by decide +kernel
theorem dX9_bestFrom_5 : decode cX9_bestFrom 5 = .ok (.invokevirtual 179, 3) := by decide +kernel
theorem dX9_bestFrom_8 : decode cX9_bestFrom 8 = .ok (.invokevirtual 182, 3) := by decide +kernel
theorem dX9_bestFrom_11 : decode cX9_bestFrom 11 = .ok (.istore 4, 2) := by decide +kernel
theorem dX9_bestFrom_13 : decode cX9_bestFrom 13 = .ok (.aload_n 0, 1) := by decide +kernel
theorem dX9_bestFrom_14 : decode cX9_bestFrom 14 = .ok (.getfield 50, 3) := by decide +kernel
theorem dX9_bestFrom_17 : decode cX9_bestFrom 17 = .ok (.iload_n 2, 1) := by decide +kernel
theorem dX9_bestFrom_18 : decode cX9_bestFrom 18 = .ok (.iaload, 1) := by decide +kernel
theorem dX9_bestFrom_19 : decode cX9_bestFrom 19 = .ok (.invokestatic 185, 3) := by decide +kernel
theorem dX9_bestFrom_22 : decode cX9_bestFrom 22 = .ok (.istore 5, 2) := by decide +kernel
theorem dX9_bestFrom_24 : decode cX9_bestFrom 24 = .ok (.ldc 188, 2) := by decide +kernel
theorem dX9_bestFrom_26 : decode cX9_bestFrom 26 = .ok (.istore 6, 2) := by decide +kernel
theorem dX9_bestFrom_28 : decode cX9_bestFrom 28 = .ok (.iconst 0, 1) := by decide +kernel
theorem dX9_bestFrom_29 : decode cX9_bestFrom 29 = .ok (.istore 7, 2) := by decide +kernel
theorem dX9_bestFrom_31 : decode cX9_bestFrom 31 = .ok (.iload 7, 2) := by decide +kernel
theorem dX9_bestFrom_33 : decode cX9_bestFrom 33 = .ok (.bipush 63, 2) := by decide +kernel
theorem dX9_bestFrom_35 : decode cX9_bestFrom 35 = .ok (.if_icmp .ge 86, 3) := by decide +kernel
theorem dX9_bestFrom_38 : decode cX9_bestFrom 38 = .ok (.aload_n 0, 1) := by decide +kernel
theorem dX9_bestFrom_39 : decode cX9_bestFrom 39 = .ok (.iload 7, 2) := by decide +kernel
theorem dX9_bestFrom_41 : decode cX9_bestFrom 41 = .ok (.iload 5, 2) := by decide +kernel
theorem dX9_bestFrom_43 : decode cX9_bestFrom 43 = .ok (.iload 4, 2) := by decide +kernel
theorem dX9_bestFrom_45 : decode cX9_bestFrom 45 = .ok (.invokevirtual 189, 3) := by decide +kernel
theorem dX9_bestFrom_48 : decode cX9_bestFrom 48 = .ok (.ifCond .eq 67, 3) := by decide +kernel
theorem dX9_bestFrom_51 : decode cX9_bestFrom 51 = .ok (.aload_n 0, 1) := by decide +kernel
theorem dX9_bestFrom_52 : decode cX9_bestFrom 52 = .ok (.iload_n 1, 1) := by decide +kernel
theorem dX9_bestFrom_53 : decode cX9_bestFrom 53 = .ok (.iload 7, 2) := by decide +kernel
theorem dX9_bestFrom_55 : decode cX9_bestFrom 55 = .ok (.invokevirtual 192, 3) := by decide +kernel
theorem dX9_bestFrom_58 : decode cX9_bestFrom 58 = .ok (.istore 8, 2) := by decide +kernel
theorem dX9_bestFrom_60 : decode cX9_bestFrom 60 = .ok (.aload_n 0, 1) := by decide +kernel
theorem dX9_bestFrom_61 : decode cX9_bestFrom 61 = .ok (.iload 7, 2) := by decide +kernel
theorem dX9_bestFrom_63 : decode cX9_bestFrom 63 = .ok (.invokevirtual 195, 3) := by decide +kernel
theorem dX9_bestFrom_66 : decode cX9_bestFrom 66 = .ok (.aload_n 0, 1) := by decide +kernel
theorem dX9_bestFrom_67 : decode cX9_bestFrom 67 = .ok (.getfield 59, 3) := by decide +kernel
theorem dX9_bestFrom_70 : decode cX9_bestFrom 70 = .ok (.sipush 2187, 3) := by decide +kernel
theorem dX9_bestFrom_73 : decode cX9_bestFrom 73 = .ok (.iload_n 2, 1) := by decide +kernel
theorem dX9_bestFrom_74 : decode cX9_bestFrom 74 = .ok (.imul, 1) := by decide +kernel
theorem dX9_bestFrom_75 : decode cX9_bestFrom 75 = .ok (.iload 8, 2) := by decide +kernel
theorem dX9_bestFrom_77 : decode cX9_bestFrom 77 = .ok (.iadd, 1) := by decide +kernel
theorem dX9_bestFrom_78 : decode cX9_bestFrom 78 = .ok (.iaload, 1) := by decide +kernel
theorem dX9_bestFrom_79 : decode cX9_bestFrom 79 = .ok (.iadd, 1) := by decide +kernel
theorem dX9_bestFrom_80 : decode cX9_bestFrom 80 = .ok (.istore 9, 2) := by decide +kernel
theorem dX9_bestFrom_82 : decode cX9_bestFrom 82 = .ok (.aload_n 0, 1) := by decide +kernel
theorem dX9_bestFrom_83 : decode cX9_bestFrom 83 = .ok (.getfield 56, 3) := by decide +kernel
theorem dX9_bestFrom_86 : decode cX9_bestFrom 86 = .ok (.sipush 2187, 3) := by decide +kernel
theorem dX9_bestFrom_89 : decode cX9_bestFrom 89 = .ok (.iload_n 2, 1) := by decide +kernel
theorem dX9_bestFrom_90 : decode cX9_bestFrom 90 = .ok (.imul, 1) := by decide +kernel
theorem dX9_bestFrom_91 : decode cX9_bestFrom 91 = .ok (.iload 8, 2) := by decide +kernel
theorem dX9_bestFrom_93 : decode cX9_bestFrom 93 = .ok (.iadd, 1) := by decide +kernel
theorem dX9_bestFrom_94 : decode cX9_bestFrom 94 = .ok (.iaload, 1) := by decide +kernel
theorem dX9_bestFrom_95 : decode cX9_bestFrom 95 = .ok (.iconst 1, 1) := by decide +kernel
theorem dX9_bestFrom_96 : decode cX9_bestFrom 96 = .ok (.if_icmp .ne 15, 3) := by decide +kernel
theorem dX9_bestFrom_99 : decode cX9_bestFrom 99 = .ok (.iload 9, 2) := by decide +kernel
theorem dX9_bestFrom_101 : decode cX9_bestFrom 101 = .ok (.iload 6, 2) := by decide +kernel
theorem dX9_bestFrom_103 : decode cX9_bestFrom 103 = .ok (.if_icmp .ge 8, 3) := by decide +kernel
theorem dX9_bestFrom_106 : decode cX9_bestFrom 106 = .ok (.iload 9, 2) := by decide +kernel
theorem dX9_bestFrom_108 : decode cX9_bestFrom 108 = .ok (.goto 5, 3) := by decide +kernel
theorem dX9_bestFrom_111 : decode cX9_bestFrom 111 = .ok (.iload 6, 2) := by decide +kernel
theorem dX9_bestFrom_113 : decode cX9_bestFrom 113 = .ok (.istore 6, 2) := by decide +kernel
theorem dX9_bestFrom_115 : decode cX9_bestFrom 115 = .ok (.iinc 7 1, 3) := by decide +kernel
theorem dX9_bestFrom_118 : decode cX9_bestFrom 118 = .ok (.goto (-87), 3) := by decide +kernel
theorem dX9_bestFrom_121 : decode cX9_bestFrom 121 = .ok (.iload 6, 2) := by decide +kernel
theorem dX9_bestFrom_123 : decode cX9_bestFrom 123 = .ok (.ireturn, 1) := by decide +kernel
set_option maxRecDepth 20000 in
theorem ggX9_layRest_X9_layFits : GoodIn wsX9_layRest wsX9_layFits := goodIn_r _ [9, 1, 10, 3, 11, 12, 13, 14, 8, 15, 16, 17, 18, 19, 20, 21, 22, 23, 24, 55, 56, 57, 58, 59, 60, 61, 62, 63, 64, 65, 66, 67, 68, 69, 70, 71, 72, 73, 74, 75, 76, 77, 78, 79, 80, 81, 82, 83, 84, 85, 86, 87, 88, 89, 90, 91, 92, 93, 94, 95, 96, 97, 98] (by decide +kernel) (by decide +kernel)
set_option maxRecDepth 20000 in
theorem gX9_layRest_X9_layFits : GoodIn wsX9_layRest (wsV RX9 198 RX9 yX9_layFits wsX9_layFits) := goodIn_app (goodIn_of _ (by decide +kernel)) ggX9_layRest_X9_layFits
set_option maxRecDepth 20000 in
theorem ggX9_layRest_X9_bestFrom : GoodIn wsX9_layRest wsX9_bestFrom := goodIn_r _ [28, 11, 4, 2, 3, 29, 30, 31, 8, 32, 10, 12, 13, 14, 15, 33, 34, 35, 36, 20, 21, 22, 23, 24, 37, 38, 39, 40, 41, 42, 43, 44, 45, 46, 47, 48, 49, 50, 51, 52, 53, 54, 55, 56, 57, 58, 59, 60, 61, 62, 63, 64, 65, 66, 67, 68, 69, 70, 71, 72, 73, 74, 75, 76, 77, 78, 79, 80, 81, 82, 83, 84, 85, 86, 87, 88, 89, 90, 91, 92, 93, 94, 95, 96, 97, 98] (by decide +kernel) (by decide +kernel)
set_option maxRecDepth 20000 in
theorem gX9_layRest_X9_bestFrom : GoodIn wsX9_layRest (wsV RX9 202 RX9 yX9_bestFrom wsX9_bestFrom) := goodIn_app (goodIn_of _ (by decide +kernel)) ggX9_layRest_X9_bestFrom
theorem dX9_layRest_0 : decode cX9_layRest 0 = .ok (.aload_n 0, 1) := by decide +kernel
theorem dX9_layRest_1 : decode cX9_layRest 1 = .ok (.iload_n 1, 1) := by decide +kernel
theorem dX9_layRest_2 : decode cX9_layRest 2 = .ok (.invokevirtual 198, 3) := by decide +kernel
theorem dX9_layRest_5 : decode cX9_layRest 5 = .ok (.aload_n 0, 1) := by decide +kernel
theorem dX9_layRest_6 : decode cX9_layRest 6 = .ok (.getfield 155, 3) := by decide +kernel
theorem dX9_layRest_9 : decode cX9_layRest 9 = .ok (.iconst 1, 1) := by decide +kernel
theorem dX9_layRest_10 : decode cX9_layRest 10 = .ok (.isub, 1) := by decide +kernel
theorem dX9_layRest_11 : decode cX9_layRest 11 = .ok (.istore_n 2, 1) := by decide +kernel
theorem dX9_layRest_12 : decode cX9_layRest 12 = .ok (.iload_n 2, 1) := by decide +kernel
theorem dX9_layRest_13 : decode cX9_layRest 13 = .ok (.ifCond .lt 79, 3) := by decide +kernel
theorem dX9_layRest_16 : decode cX9_layRest 16 = .ok (.iconst 0, 1) := by decide +kernel
theorem dX9_layRest_17 : decode cX9_layRest 17 = .ok (.istore_n 3, 1) := by decide +kernel
theorem dX9_layRest_18 : decode cX9_layRest 18 = .ok (.iload_n 3, 1) := by decide +kernel
theorem dX9_layRest_19 : decode cX9_layRest 19 = .ok (.sipush 2187, 3) := by decide +kernel
theorem dX9_layRest_22 : decode cX9_layRest 22 = .ok (.if_icmp .ge 64, 3) := by decide +kernel
theorem dX9_layRest_25 : decode cX9_layRest 25 = .ok (.aload_n 0, 1) := by decide +kernel
theorem dX9_layRest_26 : decode cX9_layRest 26 = .ok (.getfield 59, 3) := by decide +kernel
theorem dX9_layRest_29 : decode cX9_layRest 29 = .ok (.sipush 2187, 3) := by decide +kernel
theorem dX9_layRest_32 : decode cX9_layRest 32 = .ok (.iload_n 2, 1) := by decide +kernel
theorem dX9_layRest_33 : decode cX9_layRest 33 = .ok (.imul, 1) := by decide +kernel
theorem dX9_layRest_34 : decode cX9_layRest 34 = .ok (.iload_n 3, 1) := by decide +kernel
theorem dX9_layRest_35 : decode cX9_layRest 35 = .ok (.iadd, 1) := by decide +kernel
theorem dX9_layRest_36 : decode cX9_layRest 36 = .ok (.aload_n 0, 1) := by decide +kernel
theorem dX9_layRest_37 : decode cX9_layRest 37 = .ok (.getfield 56, 3) := by decide +kernel
theorem dX9_layRest_40 : decode cX9_layRest 40 = .ok (.sipush 2187, 3) := by decide +kernel
theorem dX9_layRest_43 : decode cX9_layRest 43 = .ok (.iload_n 2, 1) := by decide +kernel
theorem dX9_layRest_44 : decode cX9_layRest 44 = .ok (.imul, 1) := by decide +kernel
theorem dX9_layRest_45 : decode cX9_layRest 45 = .ok (.iload_n 3, 1) := by decide +kernel
theorem dX9_layRest_46 : decode cX9_layRest 46 = .ok (.iadd, 1) := by decide +kernel
theorem dX9_layRest_47 : decode cX9_layRest 47 = .ok (.iaload, 1) := by decide +kernel
theorem dX9_layRest_48 : decode cX9_layRest 48 = .ok (.ifCond .ne 8, 3) := by decide +kernel
theorem dX9_layRest_51 : decode cX9_layRest 51 = .ok (.ldc 188, 2) := by decide +kernel
theorem dX9_layRest_53 : decode cX9_layRest 53 = .ok (.goto 26, 3) := by decide +kernel
theorem dX9_layRest_56 : decode cX9_layRest 56 = .ok (.iload_n 2, 1) := by decide +kernel
theorem dX9_layRest_57 : decode cX9_layRest 57 = .ok (.aload_n 0, 1) := by decide +kernel
theorem dX9_layRest_58 : decode cX9_layRest 58 = .ok (.getfield 155, 3) := by decide +kernel
theorem dX9_layRest_61 : decode cX9_layRest 61 = .ok (.iconst 1, 1) := by decide +kernel
theorem dX9_layRest_62 : decode cX9_layRest 62 = .ok (.isub, 1) := by decide +kernel
theorem dX9_layRest_63 : decode cX9_layRest 63 = .ok (.if_icmp .ne 7, 3) := by decide +kernel
theorem dX9_layRest_66 : decode cX9_layRest 66 = .ok (.iconst 0, 1) := by decide +kernel
theorem dX9_layRest_67 : decode cX9_layRest 67 = .ok (.goto 12, 3) := by decide +kernel
theorem dX9_layRest_70 : decode cX9_layRest 70 = .ok (.aload_n 0, 1) := by decide +kernel
theorem dX9_layRest_71 : decode cX9_layRest 71 = .ok (.iload_n 3, 1) := by decide +kernel
theorem dX9_layRest_72 : decode cX9_layRest 72 = .ok (.iload_n 2, 1) := by decide +kernel
theorem dX9_layRest_73 : decode cX9_layRest 73 = .ok (.iconst 1, 1) := by decide +kernel
theorem dX9_layRest_74 : decode cX9_layRest 74 = .ok (.iadd, 1) := by decide +kernel
theorem dX9_layRest_75 : decode cX9_layRest 75 = .ok (.iload_n 1, 1) := by decide +kernel
theorem dX9_layRest_76 : decode cX9_layRest 76 = .ok (.invokevirtual 202, 3) := by decide +kernel
theorem dX9_layRest_79 : decode cX9_layRest 79 = .ok (.iastore, 1) := by decide +kernel
theorem dX9_layRest_80 : decode cX9_layRest 80 = .ok (.iinc 3 1, 3) := by decide +kernel
theorem dX9_layRest_83 : decode cX9_layRest 83 = .ok (.goto (-65), 3) := by decide +kernel
theorem dX9_layRest_86 : decode cX9_layRest 86 = .ok (.iinc 2 (-1), 3) := by decide +kernel
theorem dX9_layRest_89 : decode cX9_layRest 89 = .ok (.goto (-77), 3) := by decide +kernel
theorem dX9_layRest_92 : decode cX9_layRest 92 = .ok (.return_, 1) := by decide +kernel
set_option maxRecDepth 20000 in
theorem ggX9_layFrom_X9_heldBy : GoodIn wsX9_layFrom wsX9_heldBy := goodIn_r _ [10, 1, 11, 12, 13, 14, 9, 15, 43, 44, 45, 46, 47, 48, 49, 50, 51, 52, 53, 54, 55, 56, 57, 58, 59, 60, 61, 62, 63, 64, 65, 66, 67, 68, 69, 70, 71, 72, 73, 74, 75, 76, 77, 78, 79, 80, 81, 82, 83, 84, 85, 86] (by decide +kernel) (by decide +kernel)
set_option maxRecDepth 20000 in
theorem gX9_layFrom_X9_heldBy : GoodIn wsX9_layFrom (wsV RX9 179 RX9 yX9_heldBy wsX9_heldBy) := goodIn_app (goodIn_of _ (by decide +kernel)) ggX9_layFrom_X9_heldBy
set_option maxRecDepth 20000 in
theorem ggX9_layFrom_X9_heldPedals : GoodIn wsX9_layFrom wsX9_heldPedals := goodIn_r _ [19, 20, 21, 22, 9, 23, 24, 43, 44, 45, 46, 47, 48, 49, 50, 51, 52, 53, 54, 55, 56, 57, 58, 59, 60, 61, 62, 63, 64, 65, 66, 67, 68, 69, 70, 71, 72, 73, 74, 75, 76, 77, 78, 79, 80, 81, 82, 83, 84, 85, 86] (by decide +kernel) (by decide +kernel)
set_option maxRecDepth 20000 in
theorem gX9_layFrom_X9_heldPedals : GoodIn wsX9_layFrom (wsV RX9 182 RX9 yX9_heldPedals wsX9_heldPedals) := goodIn_app (goodIn_of _ (by decide +kernel)) ggX9_layFrom_X9_heldPedals
set_option maxRecDepth 20000 in
theorem ggX9_layFrom_X9_mostOf : GoodIn wsX9_layFrom wsX9_mostOf := goodIn_r _ [27] (by decide +kernel) (by decide +kernel)
set_option maxRecDepth 20000 in
theorem gX9_layFrom_X9_mostOf : GoodIn wsX9_layFrom (va_wsS RX9 185 yX9_mostOf wsX9_mostOf) := goodIn_app (goodIn_of _ (by decide +kernel)) ggX9_layFrom_X9_mostOf
set_option maxRecDepth 20000 in
theorem ggX9_layFrom_X9_after : GoodIn wsX9_layFrom wsX9_after := goodIn_r _ [31, 32, 43, 44, 45, 46, 47, 48, 49, 50, 51, 52, 53, 54, 55, 56, 57, 58, 59, 60, 61, 62, 63, 64, 65, 66, 67, 68, 69, 70, 71, 72, 73, 74, 75, 76, 77, 78, 79, 80, 81, 82, 83, 84, 85, 86] (by decide +kernel) (by decide +kernel)
set_option maxRecDepth 20000 in
theorem gX9_layFrom_X9_after : GoodIn wsX9_layFrom (wsV RX9 192 RX9 yX9_after wsX9_after) := goodIn_app (goodIn_of _ (by decide +kernel)) ggX9_layFrom_X9_after
set_option maxRecDepth 20000 in
theorem ggX9_layFrom_X9_can : GoodIn wsX9_layFrom wsX9_can := goodIn_r _ [36, 37, 38, 43, 44, 45, 46, 47, 48, 49, 50, 51, 52, 53, 54, 55, 56, 57, 58, 59, 60, 61, 62, 63, 64, 65, 66, 67, 68, 69, 70, 71, 72, 73, 74, 75, 76, 77, 78, 79, 80, 81, 82, 83, 84, 85, 86] (by decide +kernel) (by decide +kernel)
set_option maxRecDepth 20000 in
theorem gX9_layFrom_X9_can : GoodIn wsX9_layFrom (wsV RX9 189 RX9 yX9_can wsX9_can) := goodIn_app (goodIn_of _ (by decide +kernel)) ggX9_layFrom_X9_can
set_option maxRecDepth 20000 in
theorem ggX9_layFrom_X9_movedBy : GoodIn wsX9_layFrom wsX9_movedBy := goodIn_r _ [42, 37, 43, 44, 45, 46, 47, 48, 49, 50, 51, 52, 53, 54, 55, 56, 57, 58, 59, 60, 61, 62, 63, 64, 65, 66, 67, 68, 69, 70, 71, 72, 73, 74, 75, 76, 77, 78, 79, 80, 81, 82, 83, 84, 85, 86] (by decide +kernel) (by decide +kernel)
set_option maxRecDepth 20000 in
theorem gX9_layFrom_X9_movedBy : GoodIn wsX9_layFrom (wsV RX9 195 RX9 yX9_movedBy wsX9_movedBy) := goodIn_app (goodIn_of _ (by decide +kernel)) ggX9_layFrom_X9_movedBy
theorem dX9_layFrom_0 : decode cX9_layFrom 0 = .ok (.aload_n 0, 1) := by decide +kernel
theorem dX9_layFrom_1 : decode cX9_layFrom 1 = .ok (.iload_n 1, 1) := by decide +kernel
theorem dX9_layFrom_2 : decode cX9_layFrom 2 = .ok (.aload_n 0, 1) := by decide +kernel
theorem dX9_layFrom_3 : decode cX9_layFrom 3 = .ok (.iload_n 2, 1) := by decide +kernel
theorem dX9_layFrom_4 : decode cX9_layFrom 4 = .ok (.iconst 0, 1) := by decide +kernel
theorem dX9_layFrom_5 : decode cX9_layFrom 5 = .ok (.invokevirtual 179, 3) := by decide +kernel
theorem dX9_layFrom_8 : decode cX9_layFrom 8 = .ok (.invokevirtual 182, 3) := by decide +kernel
theorem dX9_layFrom_11 : decode cX9_layFrom 11 = .ok (.istore 5, 2) := by decide +kernel
theorem dX9_layFrom_13 : decode cX9_layFrom 13 = .ok (.aload_n 0, 1) := by decide +kernel
theorem dX9_layFrom_14 : decode cX9_layFrom 14 = .ok (.getfield 50, 3) := by decide +kernel
theorem dX9_layFrom_17 : decode cX9_layFrom 17 = .ok (.iload_n 2, 1) := by decide +kernel
theorem dX9_layFrom_18 : decode cX9_layFrom 18 = .ok (.iaload, 1) := by decide +kernel
theorem dX9_layFrom_19 : decode cX9_layFrom 19 = .ok (.invokestatic 185, 3) := by decide +kernel
theorem dX9_layFrom_22 : decode cX9_layFrom 22 = .ok (.istore 6, 2) := by decide +kernel
theorem dX9_layFrom_24 : decode cX9_layFrom 24 = .ok (.iconst 0, 1) := by decide +kernel
theorem dX9_layFrom_25 : decode cX9_layFrom 25 = .ok (.istore 7, 2) := by decide +kernel
theorem dX9_layFrom_27 : decode cX9_layFrom 27 = .ok (.iload 7, 2) := by decide +kernel
theorem dX9_layFrom_29 : decode cX9_layFrom 29 = .ok (.bipush 63, 2) := by decide +kernel
theorem dX9_layFrom_31 : decode cX9_layFrom 31 = .ok (.if_icmp .ge 158, 3) := by decide +kernel
theorem dX9_layFrom_34 : decode cX9_layFrom 34 = .ok (.aload_n 0, 1) := by decide +kernel
theorem dX9_layFrom_35 : decode cX9_layFrom 35 = .ok (.iload_n 1, 1) := by decide +kernel
theorem dX9_layFrom_36 : decode cX9_layFrom 36 = .ok (.iload 7, 2) := by decide +kernel
theorem dX9_layFrom_38 : decode cX9_layFrom 38 = .ok (.invokevirtual 192, 3) := by decide +kernel
theorem dX9_layFrom_41 : decode cX9_layFrom 41 = .ok (.istore 8, 2) := by decide +kernel
theorem dX9_layFrom_43 : decode cX9_layFrom 43 = .ok (.aload_n 0, 1) := by decide +kernel
theorem dX9_layFrom_44 : decode cX9_layFrom 44 = .ok (.getfield 56, 3) := by decide +kernel
theorem dX9_layFrom_47 : decode cX9_layFrom 47 = .ok (.sipush 2187, 3) := by decide +kernel
theorem dX9_layFrom_50 : decode cX9_layFrom 50 = .ok (.iload_n 2, 1) := by decide +kernel
theorem dX9_layFrom_51 : decode cX9_layFrom 51 = .ok (.imul, 1) := by decide +kernel
theorem dX9_layFrom_52 : decode cX9_layFrom 52 = .ok (.iload 8, 2) := by decide +kernel
theorem dX9_layFrom_54 : decode cX9_layFrom 54 = .ok (.iadd, 1) := by decide +kernel
theorem dX9_layFrom_55 : decode cX9_layFrom 55 = .ok (.iaload, 1) := by decide +kernel
theorem dX9_layFrom_56 : decode cX9_layFrom 56 = .ok (.iconst 1, 1) := by decide +kernel
theorem dX9_layFrom_57 : decode cX9_layFrom 57 = .ok (.if_icmp .ne 126, 3) := by decide +kernel
theorem dX9_layFrom_60 : decode cX9_layFrom 60 = .ok (.aload_n 0, 1) := by decide +kernel
theorem dX9_layFrom_61 : decode cX9_layFrom 61 = .ok (.iload 7, 2) := by decide +kernel
theorem dX9_layFrom_63 : decode cX9_layFrom 63 = .ok (.iload 6, 2) := by decide +kernel
theorem dX9_layFrom_65 : decode cX9_layFrom 65 = .ok (.iload 5, 2) := by decide +kernel
theorem dX9_layFrom_67 : decode cX9_layFrom 67 = .ok (.invokevirtual 189, 3) := by decide +kernel
theorem dX9_layFrom_70 : decode cX9_layFrom 70 = .ok (.ifCond .eq 113, 3) := by decide +kernel
theorem dX9_layFrom_73 : decode cX9_layFrom 73 = .ok (.iload_n 3, 1) := by decide +kernel
theorem dX9_layFrom_74 : decode cX9_layFrom 74 = .ok (.aload_n 0, 1) := by decide +kernel
theorem dX9_layFrom_75 : decode cX9_layFrom 75 = .ok (.iload 7, 2) := by decide +kernel
theorem dX9_layFrom_77 : decode cX9_layFrom 77 = .ok (.invokevirtual 195, 3) := by decide +kernel
theorem dX9_layFrom_80 : decode cX9_layFrom 80 = .ok (.iadd, 1) := by decide +kernel
theorem dX9_layFrom_81 : decode cX9_layFrom 81 = .ok (.istore 9, 2) := by decide +kernel
theorem dX9_layFrom_83 : decode cX9_layFrom 83 = .ok (.sipush 2187, 3) := by decide +kernel
theorem dX9_layFrom_86 : decode cX9_layFrom 86 = .ok (.iload_n 2, 1) := by decide +kernel
theorem dX9_layFrom_87 : decode cX9_layFrom 87 = .ok (.imul, 1) := by decide +kernel
theorem dX9_layFrom_88 : decode cX9_layFrom 88 = .ok (.iload 8, 2) := by decide +kernel
theorem dX9_layFrom_90 : decode cX9_layFrom 90 = .ok (.iadd, 1) := by decide +kernel
theorem dX9_layFrom_91 : decode cX9_layFrom 91 = .ok (.istore 10, 2) := by decide +kernel
theorem dX9_layFrom_93 : decode cX9_layFrom 93 = .ok (.aload_n 0, 1) := by decide +kernel
theorem dX9_layFrom_94 : decode cX9_layFrom 94 = .ok (.getfield 65, 3) := by decide +kernel
theorem dX9_layFrom_97 : decode cX9_layFrom 97 = .ok (.iload 10, 2) := by decide +kernel
theorem dX9_layFrom_99 : decode cX9_layFrom 99 = .ok (.iload 9, 2) := by decide +kernel
theorem dX9_layFrom_101 : decode cX9_layFrom 101 = .ok (.aload_n 0, 1) := by decide +kernel
theorem dX9_layFrom_102 : decode cX9_layFrom 102 = .ok (.getfield 62, 3) := by decide +kernel
theorem dX9_layFrom_105 : decode cX9_layFrom 105 = .ok (.iload 10, 2) := by decide +kernel
theorem dX9_layFrom_107 : decode cX9_layFrom 107 = .ok (.iaload, 1) := by decide +kernel
theorem dX9_layFrom_108 : decode cX9_layFrom 108 = .ok (.if_icmp .ge 8, 3) := by decide +kernel
theorem dX9_layFrom_111 : decode cX9_layFrom 111 = .ok (.iload 4, 2) := by decide +kernel
theorem dX9_layFrom_113 : decode cX9_layFrom 113 = .ok (.goto 38, 3) := by decide +kernel
theorem dX9_layFrom_116 : decode cX9_layFrom 116 = .ok (.iload 9, 2) := by decide +kernel
theorem dX9_layFrom_118 : decode cX9_layFrom 118 = .ok (.aload_n 0, 1) := by decide +kernel
theorem dX9_layFrom_119 : decode cX9_layFrom 119 = .ok (.getfield 62, 3) := by decide +kernel
theorem dX9_layFrom_122 : decode cX9_layFrom 122 = .ok (.iload 10, 2) := by decide +kernel
theorem dX9_layFrom_124 : decode cX9_layFrom 124 = .ok (.iaload, 1) := by decide +kernel
theorem dX9_layFrom_125 : decode cX9_layFrom 125 = .ok (.if_icmp .ne 19, 3) := by decide +kernel
theorem dX9_layFrom_128 : decode cX9_layFrom 128 = .ok (.aload_n 0, 1) := by decide +kernel
theorem dX9_layFrom_129 : decode cX9_layFrom 129 = .ok (.getfield 65, 3) := by decide +kernel
theorem dX9_layFrom_132 : decode cX9_layFrom 132 = .ok (.iload 10, 2) := by decide +kernel
theorem dX9_layFrom_134 : decode cX9_layFrom 134 = .ok (.iaload, 1) := by decide +kernel
theorem dX9_layFrom_135 : decode cX9_layFrom 135 = .ok (.iload 4, 2) := by decide +kernel
theorem dX9_layFrom_137 : decode cX9_layFrom 137 = .ok (.iadd, 1) := by decide +kernel
theorem dX9_layFrom_138 : decode cX9_layFrom 138 = .ok (.ldc 205, 2) := by decide +kernel
theorem dX9_layFrom_140 : decode cX9_layFrom 140 = .ok (.irem, 1) := by decide +kernel
theorem dX9_layFrom_141 : decode cX9_layFrom 141 = .ok (.goto 10, 3) := by decide +kernel
theorem dX9_layFrom_144 : decode cX9_layFrom 144 = .ok (.aload_n 0, 1) := by decide +kernel
theorem dX9_layFrom_145 : decode cX9_layFrom 145 = .ok (.getfield 65, 3) := by decide +kernel
theorem dX9_layFrom_148 : decode cX9_layFrom 148 = .ok (.iload 10, 2) := by decide +kernel
theorem dX9_layFrom_150 : decode cX9_layFrom 150 = .ok (.iaload, 1) := by decide +kernel
theorem dX9_layFrom_151 : decode cX9_layFrom 151 = .ok (.iastore, 1) := by decide +kernel
theorem dX9_layFrom_152 : decode cX9_layFrom 152 = .ok (.aload_n 0, 1) := by decide +kernel
theorem dX9_layFrom_153 : decode cX9_layFrom 153 = .ok (.getfield 62, 3) := by decide +kernel
theorem dX9_layFrom_156 : decode cX9_layFrom 156 = .ok (.iload 10, 2) := by decide +kernel
theorem dX9_layFrom_158 : decode cX9_layFrom 158 = .ok (.iload 9, 2) := by decide +kernel
theorem dX9_layFrom_160 : decode cX9_layFrom 160 = .ok (.aload_n 0, 1) := by decide +kernel
theorem dX9_layFrom_161 : decode cX9_layFrom 161 = .ok (.getfield 62, 3) := by decide +kernel
theorem dX9_layFrom_164 : decode cX9_layFrom 164 = .ok (.iload 10, 2) := by decide +kernel
theorem dX9_layFrom_166 : decode cX9_layFrom 166 = .ok (.iaload, 1) := by decide +kernel
theorem dX9_layFrom_167 : decode cX9_layFrom 167 = .ok (.if_icmp .ge 8, 3) := by decide +kernel
theorem dX9_layFrom_170 : decode cX9_layFrom 170 = .ok (.iload 9, 2) := by decide +kernel
theorem dX9_layFrom_172 : decode cX9_layFrom 172 = .ok (.goto 10, 3) := by decide +kernel
theorem dX9_layFrom_175 : decode cX9_layFrom 175 = .ok (.aload_n 0, 1) := by decide +kernel
theorem dX9_layFrom_176 : decode cX9_layFrom 176 = .ok (.getfield 62, 3) := by decide +kernel
theorem dX9_layFrom_179 : decode cX9_layFrom 179 = .ok (.iload 10, 2) := by decide +kernel
theorem dX9_layFrom_181 : decode cX9_layFrom 181 = .ok (.iaload, 1) := by decide +kernel
theorem dX9_layFrom_182 : decode cX9_layFrom 182 = .ok (.iastore, 1) := by decide +kernel
theorem dX9_layFrom_183 : decode cX9_layFrom 183 = .ok (.iinc 7 1, 3) := by decide +kernel
theorem dX9_layFrom_186 : decode cX9_layFrom 186 = .ok (.goto (-159), 3) := by decide +kernel
theorem dX9_layFrom_189 : decode cX9_layFrom 189 = .ok (.return_, 1) := by decide +kernel
set_option maxRecDepth 20000 in
theorem ggX9_layCost_X9_layFrom : GoodIn wsX9_layCost wsX9_layFrom := goodIn_r _ [10, 11, 12, 4, 2, 13, 14, 15, 16, 9, 17, 18, 19, 20, 21, 22, 23, 24, 25, 26, 27, 28, 29, 30, 31, 32, 33, 34, 35, 36, 37, 38, 39, 40, 41, 42, 43, 44, 45, 46, 47, 48, 49, 50, 51, 52, 53, 54, 55, 56, 57, 58, 59, 60, 61, 62, 63, 64, 65, 66, 67, 68, 69, 70, 71, 72, 73, 74, 75, 76, 77, 78, 79, 80, 81, 82, 83, 84, 85, 86, 87, 88, 89, 90, 91, 92, 93] (by decide +kernel) (by decide +kernel)
set_option maxRecDepth 20000 in
theorem gX9_layCost_X9_layFrom : GoodIn wsX9_layCost (wsV RX9 206 RX9 yX9_layFrom wsX9_layFrom) := goodIn_app (goodIn_of _ (by decide +kernel)) ggX9_layCost_X9_layFrom
theorem dX9_layCost_0 : decode cX9_layCost 0 = .ok (.iconst 0, 1) := by decide +kernel
theorem dX9_layCost_1 : decode cX9_layCost 1 = .ok (.istore_n 1, 1) := by decide +kernel
theorem dX9_layCost_2 : decode cX9_layCost 2 = .ok (.iload_n 1, 1) := by decide +kernel
theorem dX9_layCost_3 : decode cX9_layCost 3 = .ok (.sipush 2187, 3) := by decide +kernel
theorem dX9_layCost_6 : decode cX9_layCost 6 = .ok (.aload_n 0, 1) := by decide +kernel
theorem dX9_layCost_7 : decode cX9_layCost 7 = .ok (.getfield 155, 3) := by decide +kernel
theorem dX9_layCost_10 : decode cX9_layCost 10 = .ok (.imul, 1) := by decide +kernel
theorem dX9_layCost_11 : decode cX9_layCost 11 = .ok (.if_icmp .ge 24, 3) := by decide +kernel
theorem dX9_layCost_14 : decode cX9_layCost 14 = .ok (.aload_n 0, 1) := by decide +kernel
theorem dX9_layCost_15 : decode cX9_layCost 15 = .ok (.getfield 62, 3) := by decide +kernel
theorem dX9_layCost_18 : decode cX9_layCost 18 = .ok (.iload_n 1, 1) := by decide +kernel
theorem dX9_layCost_19 : decode cX9_layCost 19 = .ok (.ldc 188, 2) := by decide +kernel
theorem dX9_layCost_21 : decode cX9_layCost 21 = .ok (.iastore, 1) := by decide +kernel
theorem dX9_layCost_22 : decode cX9_layCost 22 = .ok (.aload_n 0, 1) := by decide +kernel
theorem dX9_layCost_23 : decode cX9_layCost 23 = .ok (.getfield 65, 3) := by decide +kernel
theorem dX9_layCost_26 : decode cX9_layCost 26 = .ok (.iload_n 1, 1) := by decide +kernel
theorem dX9_layCost_27 : decode cX9_layCost 27 = .ok (.iconst 0, 1) := by decide +kernel
theorem dX9_layCost_28 : decode cX9_layCost 28 = .ok (.iastore, 1) := by decide +kernel
theorem dX9_layCost_29 : decode cX9_layCost 29 = .ok (.iinc 1 1, 3) := by decide +kernel
theorem dX9_layCost_32 : decode cX9_layCost 32 = .ok (.goto (-30), 3) := by decide +kernel
theorem dX9_layCost_35 : decode cX9_layCost 35 = .ok (.aload_n 0, 1) := by decide +kernel
theorem dX9_layCost_36 : decode cX9_layCost 36 = .ok (.aload_n 0, 1) := by decide +kernel
theorem dX9_layCost_37 : decode cX9_layCost 37 = .ok (.getfield 152, 3) := by decide +kernel
theorem dX9_layCost_40 : decode cX9_layCost 40 = .ok (.iconst 0, 1) := by decide +kernel
theorem dX9_layCost_41 : decode cX9_layCost 41 = .ok (.iconst 0, 1) := by decide +kernel
theorem dX9_layCost_42 : decode cX9_layCost 42 = .ok (.iconst 1, 1) := by decide +kernel
theorem dX9_layCost_43 : decode cX9_layCost 43 = .ok (.invokevirtual 206, 3) := by decide +kernel
theorem dX9_layCost_46 : decode cX9_layCost 46 = .ok (.iconst 1, 1) := by decide +kernel
theorem dX9_layCost_47 : decode cX9_layCost 47 = .ok (.istore_n 1, 1) := by decide +kernel
theorem dX9_layCost_48 : decode cX9_layCost 48 = .ok (.iload_n 1, 1) := by decide +kernel
theorem dX9_layCost_49 : decode cX9_layCost 49 = .ok (.aload_n 0, 1) := by decide +kernel
theorem dX9_layCost_50 : decode cX9_layCost 50 = .ok (.getfield 155, 3) := by decide +kernel
theorem dX9_layCost_53 : decode cX9_layCost 53 = .ok (.if_icmp .ge 63, 3) := by decide +kernel
theorem dX9_layCost_56 : decode cX9_layCost 56 = .ok (.iconst 0, 1) := by decide +kernel
theorem dX9_layCost_57 : decode cX9_layCost 57 = .ok (.istore_n 2, 1) := by decide +kernel
theorem dX9_layCost_58 : decode cX9_layCost 58 = .ok (.iload_n 2, 1) := by decide +kernel
theorem dX9_layCost_59 : decode cX9_layCost 59 = .ok (.sipush 2187, 3) := by decide +kernel
theorem dX9_layCost_62 : decode cX9_layCost 62 = .ok (.if_icmp .ge 48, 3) := by decide +kernel
theorem dX9_layCost_65 : decode cX9_layCost 65 = .ok (.sipush 2187, 3) := by decide +kernel
theorem dX9_layCost_68 : decode cX9_layCost 68 = .ok (.iload_n 1, 1) := by decide +kernel
theorem dX9_layCost_69 : decode cX9_layCost 69 = .ok (.iconst 1, 1) := by decide +kernel
theorem dX9_layCost_70 : decode cX9_layCost 70 = .ok (.isub, 1) := by decide +kernel
theorem dX9_layCost_71 : decode cX9_layCost 71 = .ok (.imul, 1) := by decide +kernel
theorem dX9_layCost_72 : decode cX9_layCost 72 = .ok (.iload_n 2, 1) := by decide +kernel
theorem dX9_layCost_73 : decode cX9_layCost 73 = .ok (.iadd, 1) := by decide +kernel
theorem dX9_layCost_74 : decode cX9_layCost 74 = .ok (.istore_n 3, 1) := by decide +kernel
theorem dX9_layCost_75 : decode cX9_layCost 75 = .ok (.aload_n 0, 1) := by decide +kernel
theorem dX9_layCost_76 : decode cX9_layCost 76 = .ok (.getfield 62, 3) := by decide +kernel
theorem dX9_layCost_79 : decode cX9_layCost 79 = .ok (.iload_n 3, 1) := by decide +kernel
theorem dX9_layCost_80 : decode cX9_layCost 80 = .ok (.iaload, 1) := by decide +kernel
theorem dX9_layCost_81 : decode cX9_layCost 81 = .ok (.ldc 188, 2) := by decide +kernel
theorem dX9_layCost_83 : decode cX9_layCost 83 = .ok (.if_icmp .ge 21, 3) := by decide +kernel
theorem dX9_layCost_86 : decode cX9_layCost 86 = .ok (.aload_n 0, 1) := by decide +kernel
theorem dX9_layCost_87 : decode cX9_layCost 87 = .ok (.iload_n 2, 1) := by decide +kernel
theorem dX9_layCost_88 : decode cX9_layCost 88 = .ok (.iload_n 1, 1) := by decide +kernel
theorem dX9_layCost_89 : decode cX9_layCost 89 = .ok (.aload_n 0, 1) := by decide +kernel
theorem dX9_layCost_90 : decode cX9_layCost 90 = .ok (.getfield 62, 3) := by decide +kernel
theorem dX9_layCost_93 : decode cX9_layCost 93 = .ok (.iload_n 3, 1) := by decide +kernel
theorem dX9_layCost_94 : decode cX9_layCost 94 = .ok (.iaload, 1) := by decide +kernel
theorem dX9_layCost_95 : decode cX9_layCost 95 = .ok (.aload_n 0, 1) := by decide +kernel
theorem dX9_layCost_96 : decode cX9_layCost 96 = .ok (.getfield 65, 3) := by decide +kernel
theorem dX9_layCost_99 : decode cX9_layCost 99 = .ok (.iload_n 3, 1) := by decide +kernel
theorem dX9_layCost_100 : decode cX9_layCost 100 = .ok (.iaload, 1) := by decide +kernel
theorem dX9_layCost_101 : decode cX9_layCost 101 = .ok (.invokevirtual 206, 3) := by decide +kernel
theorem dX9_layCost_104 : decode cX9_layCost 104 = .ok (.iinc 2 1, 3) := by decide +kernel
theorem dX9_layCost_107 : decode cX9_layCost 107 = .ok (.goto (-49), 3) := by decide +kernel
theorem dX9_layCost_110 : decode cX9_layCost 110 = .ok (.iinc 1 1, 3) := by decide +kernel
theorem dX9_layCost_113 : decode cX9_layCost 113 = .ok (.goto (-65), 3) := by decide +kernel
theorem dX9_layCost_116 : decode cX9_layCost 116 = .ok (.return_, 1) := by decide +kernel
set_option maxRecDepth 20000 in
theorem ggX9_layBest_X9_heldBy : GoodIn wsX9_layBest wsX9_heldBy := goodIn_r _ [13, 4, 14, 15, 16, 17, 12, 18, 46, 47, 48, 49, 50, 51, 52, 53, 54, 55, 56, 57, 58, 59, 60, 61, 62, 63, 64, 65, 66, 67, 68, 69, 70, 71, 72, 73, 74, 75, 76, 77, 78, 79, 80, 81, 82, 83, 84, 85, 86, 87, 88, 89] (by decide +kernel) (by decide +kernel)
set_option maxRecDepth 20000 in
theorem gX9_layBest_X9_heldBy : GoodIn wsX9_layBest (wsV RX9 179 RX9 yX9_heldBy wsX9_heldBy) := goodIn_app (goodIn_of _ (by decide +kernel)) ggX9_layBest_X9_heldBy
set_option maxRecDepth 20000 in
theorem ggX9_layBest_X9_heldPedals : GoodIn wsX9_layBest wsX9_heldPedals := goodIn_r _ [22, 23, 24, 25, 12, 26, 27, 46, 47, 48, 49, 50, 51, 52, 53, 54, 55, 56, 57, 58, 59, 60, 61, 62, 63, 64, 65, 66, 67, 68, 69, 70, 71, 72, 73, 74, 75, 76, 77, 78, 79, 80, 81, 82, 83, 84, 85, 86, 87, 88, 89] (by decide +kernel) (by decide +kernel)
set_option maxRecDepth 20000 in
theorem gX9_layBest_X9_heldPedals : GoodIn wsX9_layBest (wsV RX9 182 RX9 yX9_heldPedals wsX9_heldPedals) := goodIn_app (goodIn_of _ (by decide +kernel)) ggX9_layBest_X9_heldPedals
set_option maxRecDepth 20000 in
theorem ggX9_layBest_X9_mostOf : GoodIn wsX9_layBest wsX9_mostOf := goodIn_r _ [30] (by decide +kernel) (by decide +kernel)
set_option maxRecDepth 20000 in
theorem gX9_layBest_X9_mostOf : GoodIn wsX9_layBest (va_wsS RX9 185 yX9_mostOf wsX9_mostOf) := goodIn_app (goodIn_of _ (by decide +kernel)) ggX9_layBest_X9_mostOf
set_option maxRecDepth 20000 in
theorem ggX9_layBest_X9_after : GoodIn wsX9_layBest wsX9_after := goodIn_r _ [34, 35, 46, 47, 48, 49, 50, 51, 52, 53, 54, 55, 56, 57, 58, 59, 60, 61, 62, 63, 64, 65, 66, 67, 68, 69, 70, 71, 72, 73, 74, 75, 76, 77, 78, 79, 80, 81, 82, 83, 84, 85, 86, 87, 88, 89] (by decide +kernel) (by decide +kernel)
set_option maxRecDepth 20000 in
theorem gX9_layBest_X9_after : GoodIn wsX9_layBest (wsV RX9 192 RX9 yX9_after wsX9_after) := goodIn_app (goodIn_of _ (by decide +kernel)) ggX9_layBest_X9_after
set_option maxRecDepth 20000 in
theorem ggX9_layBest_X9_can : GoodIn wsX9_layBest wsX9_can := goodIn_r _ [39, 40, 41, 46, 47, 48, 49, 50, 51, 52, 53, 54, 55, 56, 57, 58, 59, 60, 61, 62, 63, 64, 65, 66, 67, 68, 69, 70, 71, 72, 73, 74, 75, 76, 77, 78, 79, 80, 81, 82, 83, 84, 85, 86, 87, 88, 89] (by decide +kernel) (by decide +kernel)
set_option maxRecDepth 20000 in
theorem gX9_layBest_X9_can : GoodIn wsX9_layBest (wsV RX9 189 RX9 yX9_can wsX9_can) := goodIn_app (goodIn_of _ (by decide +kernel)) ggX9_layBest_X9_can
set_option maxRecDepth 20000 in
theorem ggX9_layBest_X9_movedBy : GoodIn wsX9_layBest wsX9_movedBy := goodIn_r _ [45, 40, 46, 47, 48, 49, 50, 51, 52, 53, 54, 55, 56, 57, 58, 59, 60, 61, 62, 63, 64, 65, 66, 67, 68, 69, 70, 71, 72, 73, 74, 75, 76, 77, 78, 79, 80, 81, 82, 83, 84, 85, 86, 87, 88, 89] (by decide +kernel) (by decide +kernel)
set_option maxRecDepth 20000 in
theorem gX9_layBest_X9_movedBy : GoodIn wsX9_layBest (wsV RX9 195 RX9 yX9_movedBy wsX9_movedBy) := goodIn_app (goodIn_of _ (by decide +kernel)) ggX9_layBest_X9_movedBy
theorem dX9_layBest_0 : decode cX9_layBest 0 = .ok (.aload_n 0, 1) := by decide +kernel
theorem dX9_layBest_1 : decode cX9_layBest 1 = .ok (.getfield 152, 3) := by decide +kernel
theorem dX9_layBest_4 : decode cX9_layBest 4 = .ok (.istore_n 1, 1) := by decide +kernel
theorem dX9_layBest_5 : decode cX9_layBest 5 = .ok (.aload_n 0, 1) := by decide +kernel
theorem dX9_layBest_6 : decode cX9_layBest 6 = .ok (.getfield 210, 3) := by decide +kernel
theorem dX9_layBest_9 : decode cX9_layBest 9 = .ok (.istore_n 2, 1) := by decide +kernel
theorem dX9_layBest_10 : decode cX9_layBest 10 = .ok (.iconst 0, 1) := by decide +kernel
theorem dX9_layBest_11 : decode cX9_layBest 11 = .ok (.istore_n 3, 1) := by decide +kernel
theorem dX9_layBest_12 : decode cX9_layBest 12 = .ok (.iload_n 3, 1) := by decide +kernel
theorem dX9_layBest_13 : decode cX9_layBest 13 = .ok (.aload_n 0, 1) := by decide +kernel
theorem dX9_layBest_14 : decode cX9_layBest 14 = .ok (.getfield 155, 3) := by decide +kernel
theorem dX9_layBest_17 : decode cX9_layBest 17 = .ok (.if_icmp .ge 222, 3) := by decide +kernel
theorem dX9_layBest_20 : decode cX9_layBest 20 = .ok (.aload_n 0, 1) := by decide +kernel
theorem dX9_layBest_21 : decode cX9_layBest 21 = .ok (.iload_n 1, 1) := by decide +kernel
theorem dX9_layBest_22 : decode cX9_layBest 22 = .ok (.aload_n 0, 1) := by decide +kernel
theorem dX9_layBest_23 : decode cX9_layBest 23 = .ok (.iload_n 3, 1) := by decide +kernel
theorem dX9_layBest_24 : decode cX9_layBest 24 = .ok (.iconst 0, 1) := by decide +kernel
theorem dX9_layBest_25 : decode cX9_layBest 25 = .ok (.invokevirtual 179, 3) := by decide +kernel
theorem dX9_layBest_28 : decode cX9_layBest 28 = .ok (.invokevirtual 182, 3) := by decide +kernel
theorem dX9_layBest_31 : decode cX9_layBest 31 = .ok (.istore 4, 2) := by decide +kernel
theorem dX9_layBest_33 : decode cX9_layBest 33 = .ok (.aload_n 0, 1) := by decide +kernel
theorem dX9_layBest_34 : decode cX9_layBest 34 = .ok (.getfield 50, 3) := by decide +kernel
theorem dX9_layBest_37 : decode cX9_layBest 37 = .ok (.iload_n 3, 1) := by decide +kernel
theorem dX9_layBest_38 : decode cX9_layBest 38 = .ok (.iaload, 1) := by decide +kernel
theorem dX9_layBest_39 : decode cX9_layBest 39 = .ok (.invokestatic 185, 3) := by decide +kernel
theorem dX9_layBest_42 : decode cX9_layBest 42 = .ok (.istore 5, 2) := by decide +kernel
theorem dX9_layBest_44 : decode cX9_layBest 44 = .ok (.sipush 2187, 3) := by decide +kernel
theorem dX9_layBest_47 : decode cX9_layBest 47 = .ok (.istore 6, 2) := by decide +kernel
theorem dX9_layBest_49 : decode cX9_layBest 49 = .ok (.iconst 0, 1) := by decide +kernel
theorem dX9_layBest_50 : decode cX9_layBest 50 = .ok (.istore 7, 2) := by decide +kernel
theorem dX9_layBest_52 : decode cX9_layBest 52 = .ok (.iconst 0, 1) := by decide +kernel
theorem dX9_layBest_53 : decode cX9_layBest 53 = .ok (.istore 8, 2) := by decide +kernel
theorem dX9_layBest_55 : decode cX9_layBest 55 = .ok (.iload 8, 2) := by decide +kernel
theorem dX9_layBest_57 : decode cX9_layBest 57 = .ok (.bipush 63, 2) := by decide +kernel
theorem dX9_layBest_59 : decode cX9_layBest 59 = .ok (.if_icmp .ge 134, 3) := by decide +kernel
theorem dX9_layBest_62 : decode cX9_layBest 62 = .ok (.aload_n 0, 1) := by decide +kernel
theorem dX9_layBest_63 : decode cX9_layBest 63 = .ok (.getfield 210, 3) := by decide +kernel
theorem dX9_layBest_66 : decode cX9_layBest 66 = .ok (.ldc 188, 2) := by decide +kernel
theorem dX9_layBest_68 : decode cX9_layBest 68 = .ok (.if_icmp .ge 125, 3) := by decide +kernel
theorem dX9_layBest_71 : decode cX9_layBest 71 = .ok (.aload_n 0, 1) := by decide +kernel
theorem dX9_layBest_72 : decode cX9_layBest 72 = .ok (.iload_n 1, 1) := by decide +kernel
theorem dX9_layBest_73 : decode cX9_layBest 73 = .ok (.iload 8, 2) := by decide +kernel
theorem dX9_layBest_75 : decode cX9_layBest 75 = .ok (.invokevirtual 192, 3) := by decide +kernel
theorem dX9_layBest_78 : decode cX9_layBest 78 = .ok (.istore 9, 2) := by decide +kernel
theorem dX9_layBest_80 : decode cX9_layBest 80 = .ok (.aload_n 0, 1) := by decide +kernel
theorem dX9_layBest_81 : decode cX9_layBest 81 = .ok (.getfield 56, 3) := by decide +kernel
theorem dX9_layBest_84 : decode cX9_layBest 84 = .ok (.sipush 2187, 3) := by decide +kernel
theorem dX9_layBest_87 : decode cX9_layBest 87 = .ok (.iload_n 3, 1) := by decide +kernel
theorem dX9_layBest_88 : decode cX9_layBest 88 = .ok (.imul, 1) := by decide +kernel
theorem dX9_layBest_89 : decode cX9_layBest 89 = .ok (.iload 9, 2) := by decide +kernel
theorem dX9_layBest_91 : decode cX9_layBest 91 = .ok (.iadd, 1) := by decide +kernel
theorem dX9_layBest_92 : decode cX9_layBest 92 = .ok (.iaload, 1) := by decide +kernel
theorem dX9_layBest_93 : decode cX9_layBest 93 = .ok (.iconst 1, 1) := by decide +kernel
theorem dX9_layBest_94 : decode cX9_layBest 94 = .ok (.if_icmp .ne 44, 3) := by decide +kernel
theorem dX9_layBest_97 : decode cX9_layBest 97 = .ok (.aload_n 0, 1) := by decide +kernel
theorem dX9_layBest_98 : decode cX9_layBest 98 = .ok (.iload 8, 2) := by decide +kernel
theorem dX9_layBest_100 : decode cX9_layBest 100 = .ok (.iload 5, 2) := by decide +kernel
theorem dX9_layBest_102 : decode cX9_layBest 102 = .ok (.iload 4, 2) := by decide +kernel
theorem dX9_layBest_104 : decode cX9_layBest 104 = .ok (.invokevirtual 189, 3) := by decide +kernel
theorem dX9_layBest_107 : decode cX9_layBest 107 = .ok (.ifCond .eq 31, 3) := by decide +kernel
theorem dX9_layBest_110 : decode cX9_layBest 110 = .ok (.aload_n 0, 1) := by decide +kernel
theorem dX9_layBest_111 : decode cX9_layBest 111 = .ok (.iload 8, 2) := by decide +kernel
theorem dX9_layBest_113 : decode cX9_layBest 113 = .ok (.invokevirtual 195, 3) := by decide +kernel
theorem dX9_layBest_116 : decode cX9_layBest 116 = .ok (.aload_n 0, 1) := by decide +kernel
theorem dX9_layBest_117 : decode cX9_layBest 117 = .ok (.getfield 59, 3) := by decide +kernel
theorem dX9_layBest_120 : decode cX9_layBest 120 = .ok (.sipush 2187, 3) := by decide +kernel
theorem dX9_layBest_123 : decode cX9_layBest 123 = .ok (.iload_n 3, 1) := by decide +kernel
theorem dX9_layBest_124 : decode cX9_layBest 124 = .ok (.imul, 1) := by decide +kernel
theorem dX9_layBest_125 : decode cX9_layBest 125 = .ok (.iload 9, 2) := by decide +kernel
theorem dX9_layBest_127 : decode cX9_layBest 127 = .ok (.iadd, 1) := by decide +kernel
theorem dX9_layBest_128 : decode cX9_layBest 128 = .ok (.iaload, 1) := by decide +kernel
theorem dX9_layBest_129 : decode cX9_layBest 129 = .ok (.iadd, 1) := by decide +kernel
theorem dX9_layBest_130 : decode cX9_layBest 130 = .ok (.iload_n 2, 1) := by decide +kernel
theorem dX9_layBest_131 : decode cX9_layBest 131 = .ok (.if_icmp .ne 7, 3) := by decide +kernel
theorem dX9_layBest_134 : decode cX9_layBest 134 = .ok (.iconst 1, 1) := by decide +kernel
theorem dX9_layBest_135 : decode cX9_layBest 135 = .ok (.goto 4, 3) := by decide +kernel
theorem dX9_layBest_138 : decode cX9_layBest 138 = .ok (.iconst 0, 1) := by decide +kernel
theorem dX9_layBest_139 : decode cX9_layBest 139 = .ok (.istore 10, 2) := by decide +kernel
theorem dX9_layBest_141 : decode cX9_layBest 141 = .ok (.iload 10, 2) := by decide +kernel
theorem dX9_layBest_143 : decode cX9_layBest 143 = .ok (.ifCond .eq 19, 3) := by decide +kernel
theorem dX9_layBest_146 : decode cX9_layBest 146 = .ok (.iload 9, 2) := by decide +kernel
theorem dX9_layBest_148 : decode cX9_layBest 148 = .ok (.iload 6, 2) := by decide +kernel
theorem dX9_layBest_150 : decode cX9_layBest 150 = .ok (.if_icmp .ge 12, 3) := by decide +kernel
theorem dX9_layBest_153 : decode cX9_layBest 153 = .ok (.aload_n 0, 1) := by decide +kernel
theorem dX9_layBest_154 : decode cX9_layBest 154 = .ok (.iload 8, 2) := by decide +kernel
theorem dX9_layBest_156 : decode cX9_layBest 156 = .ok (.invokevirtual 195, 3) := by decide +kernel
theorem dX9_layBest_159 : decode cX9_layBest 159 = .ok (.goto 5, 3) := by decide +kernel
theorem dX9_layBest_162 : decode cX9_layBest 162 = .ok (.iload 7, 2) := by decide +kernel
theorem dX9_layBest_164 : decode cX9_layBest 164 = .ok (.istore 7, 2) := by decide +kernel
theorem dX9_layBest_166 : decode cX9_layBest 166 = .ok (.iload 10, 2) := by decide +kernel
theorem dX9_layBest_168 : decode cX9_layBest 168 = .ok (.ifCond .eq 15, 3) := by decide +kernel
theorem dX9_layBest_171 : decode cX9_layBest 171 = .ok (.iload 9, 2) := by decide +kernel
theorem dX9_layBest_173 : decode cX9_layBest 173 = .ok (.iload 6, 2) := by decide +kernel
theorem dX9_layBest_175 : decode cX9_layBest 175 = .ok (.if_icmp .ge 8, 3) := by decide +kernel
theorem dX9_layBest_178 : decode cX9_layBest 178 = .ok (.iload 9, 2) := by decide +kernel
theorem dX9_layBest_180 : decode cX9_layBest 180 = .ok (.goto 5, 3) := by decide +kernel
theorem dX9_layBest_183 : decode cX9_layBest 183 = .ok (.iload 6, 2) := by decide +kernel
theorem dX9_layBest_185 : decode cX9_layBest 185 = .ok (.istore 6, 2) := by decide +kernel
theorem dX9_layBest_187 : decode cX9_layBest 187 = .ok (.iinc 8 1, 3) := by decide +kernel
theorem dX9_layBest_190 : decode cX9_layBest 190 = .ok (.goto (-135), 3) := by decide +kernel
theorem dX9_layBest_193 : decode cX9_layBest 193 = .ok (.aload_n 0, 1) := by decide +kernel
theorem dX9_layBest_194 : decode cX9_layBest 194 = .ok (.getfield 68, 3) := by decide +kernel
theorem dX9_layBest_197 : decode cX9_layBest 197 = .ok (.iload_n 3, 1) := by decide +kernel
theorem dX9_layBest_198 : decode cX9_layBest 198 = .ok (.iload 6, 2) := by decide +kernel
theorem dX9_layBest_200 : decode cX9_layBest 200 = .ok (.sipush 2187, 3) := by decide +kernel
theorem dX9_layBest_203 : decode cX9_layBest 203 = .ok (.if_icmp .ne 7, 3) := by decide +kernel
theorem dX9_layBest_206 : decode cX9_layBest 206 = .ok (.iconst (-1), 1) := by decide +kernel
theorem dX9_layBest_207 : decode cX9_layBest 207 = .ok (.goto 5, 3) := by decide +kernel
theorem dX9_layBest_210 : decode cX9_layBest 210 = .ok (.iload 6, 2) := by decide +kernel
theorem dX9_layBest_212 : decode cX9_layBest 212 = .ok (.iastore, 1) := by decide +kernel
theorem dX9_layBest_213 : decode cX9_layBest 213 = .ok (.iload 6, 2) := by decide +kernel
theorem dX9_layBest_215 : decode cX9_layBest 215 = .ok (.sipush 2187, 3) := by decide +kernel
theorem dX9_layBest_218 : decode cX9_layBest 218 = .ok (.if_icmp .ne 7, 3) := by decide +kernel
theorem dX9_layBest_221 : decode cX9_layBest 221 = .ok (.iload_n 1, 1) := by decide +kernel
theorem dX9_layBest_222 : decode cX9_layBest 222 = .ok (.goto 5, 3) := by decide +kernel
theorem dX9_layBest_225 : decode cX9_layBest 225 = .ok (.iload 6, 2) := by decide +kernel
theorem dX9_layBest_227 : decode cX9_layBest 227 = .ok (.istore_n 1, 1) := by decide +kernel
theorem dX9_layBest_228 : decode cX9_layBest 228 = .ok (.iload_n 2, 1) := by decide +kernel
theorem dX9_layBest_229 : decode cX9_layBest 229 = .ok (.iload 7, 2) := by decide +kernel
theorem dX9_layBest_231 : decode cX9_layBest 231 = .ok (.isub, 1) := by decide +kernel
theorem dX9_layBest_232 : decode cX9_layBest 232 = .ok (.istore_n 2, 1) := by decide +kernel
theorem dX9_layBest_233 : decode cX9_layBest 233 = .ok (.iinc 3 1, 3) := by decide +kernel
theorem dX9_layBest_236 : decode cX9_layBest 236 = .ok (.goto (-224), 3) := by decide +kernel
theorem dX9_layBest_239 : decode cX9_layBest 239 = .ok (.return_, 1) := by decide +kernel
set_option maxRecDepth 20000 in
theorem ggX9_freshen_X9_layRest : GoodIn wsX9_freshen wsX9_layRest := goodIn_r _ [16, 6, 17, 18, 9, 19, 20, 21, 15, 22, 23, 24, 25, 26, 27, 28, 29, 30, 31, 32, 33, 34, 35, 36, 37, 38, 39, 40, 41, 42, 43, 44, 45, 46, 47, 48, 49, 50, 51, 52, 53, 54, 55, 56, 57, 58, 59, 60, 61, 62, 63, 64, 65, 66, 67, 81, 82, 83, 84, 85, 86, 87, 88, 89, 90, 91, 92, 93, 94, 95, 96, 97, 98, 99, 100, 101, 102, 103, 104, 105, 106, 107, 108, 109, 110, 111, 112, 113, 114, 115, 116, 117, 118, 119, 120, 121, 122, 123, 124] (by decide +kernel) (by decide +kernel)
set_option maxRecDepth 20000 in
theorem gX9_freshen_X9_layRest : GoodIn wsX9_freshen (wsV RX9 213 RX9 yX9_layRest wsX9_layRest) := goodIn_app (goodIn_of _ (by decide +kernel)) ggX9_freshen_X9_layRest
set_option maxRecDepth 20000 in
theorem ggX9_freshen_X9_bestFrom : GoodIn wsX9_freshen wsX9_bestFrom := goodIn_r _ [41, 24, 9, 17, 18, 42, 43, 44, 15, 45, 23, 25, 26, 27, 28, 46, 47, 48, 49, 33, 34, 35, 36, 37, 50, 51, 52, 53, 54, 55, 56, 57, 58, 59, 60, 61, 62, 63, 64, 65, 66, 67, 81, 82, 83, 84, 85, 86, 87, 88, 89, 90, 91, 92, 93, 94, 95, 96, 97, 98, 99, 100, 101, 102, 103, 104, 105, 106, 107, 108, 109, 110, 111, 112, 113, 114, 115, 116, 117, 118, 119, 120, 121, 122, 123, 124] (by decide +kernel) (by decide +kernel)
set_option maxRecDepth 20000 in
theorem gX9_freshen_X9_bestFrom : GoodIn wsX9_freshen (wsV RX9 202 RX9 yX9_bestFrom wsX9_bestFrom) := goodIn_app (goodIn_of _ (by decide +kernel)) ggX9_freshen_X9_bestFrom
set_option maxRecDepth 20000 in
theorem ggX9_freshen_X9_layCost : GoodIn wsX9_freshen wsX9_layCost := goodIn_r _ [71, 6, 8, 9, 10, 2, 72, 73, 74, 15, 75, 24, 18, 11, 42, 43, 44, 45, 23, 25, 26, 27, 28, 46, 47, 48, 49, 33, 34, 35, 36, 37, 50, 51, 52, 59, 60, 61, 62, 63, 53, 54, 55, 56, 57, 58, 64, 65, 66, 67, 81, 82, 83, 84, 85, 86, 87, 88, 89, 90, 91, 92, 93, 94, 95, 96, 97, 98, 99, 100, 101, 102, 103, 104, 105, 106, 107, 108, 109, 110, 111, 112, 113, 114, 115, 116, 117, 118, 119, 120, 121, 122, 123, 124] (by decide +kernel) (by decide +kernel)
set_option maxRecDepth 20000 in
theorem gX9_freshen_X9_layCost : GoodIn wsX9_freshen (wsV RX9 216 RX9 yX9_layCost wsX9_layCost) := goodIn_app (goodIn_of _ (by decide +kernel)) ggX9_freshen_X9_layCost
set_option maxRecDepth 20000 in
theorem ggX9_freshen_X9_layBest : GoodIn wsX9_freshen wsX9_layBest := goodIn_r _ [79, 2, 3, 6, 24, 9, 18, 17, 80, 42, 43, 44, 15, 45, 23, 25, 26, 27, 28, 46, 47, 48, 49, 33, 34, 35, 36, 37, 50, 51, 52, 59, 60, 61, 62, 63, 53, 54, 55, 56, 57, 58, 64, 65, 66, 67, 81, 82, 83, 84, 85, 86, 87, 88, 89, 90, 91, 92, 93, 94, 95, 96, 97, 98, 99, 100, 101, 102, 103, 104, 105, 106, 107, 108, 109, 110, 111, 112, 113, 114, 115, 116, 117, 118, 119, 120, 121, 122, 123, 124] (by decide +kernel) (by decide +kernel)
set_option maxRecDepth 20000 in
theorem gX9_freshen_X9_layBest : GoodIn wsX9_freshen (wsV RX9 225 RX9 yX9_layBest wsX9_layBest) := goodIn_app (goodIn_of _ (by decide +kernel)) ggX9_freshen_X9_layBest
theorem dX9_freshen_0 : decode cX9_freshen 0 = .ok (.aload_n 0, 1) := by decide +kernel
theorem dX9_freshen_1 : decode cX9_freshen 1 = .ok (.getfield 168, 3) := by decide +kernel
theorem dX9_freshen_4 : decode cX9_freshen 4 = .ok (.ifCond .ne 4, 3) := by decide +kernel
theorem dX9_freshen_7 : decode cX9_freshen 7 = .ok (.return_, 1) := by decide +kernel
theorem dX9_freshen_8 : decode cX9_freshen 8 = .ok (.aload_n 0, 1) := by decide +kernel
theorem dX9_freshen_9 : decode cX9_freshen 9 = .ok (.iconst 0, 1) := by decide +kernel
theorem dX9_freshen_10 : decode cX9_freshen 10 = .ok (.invokevirtual 213, 3) := by decide +kernel
theorem dX9_freshen_13 : decode cX9_freshen 13 = .ok (.aload_n 0, 1) := by decide +kernel
theorem dX9_freshen_14 : decode cX9_freshen 14 = .ok (.aload_n 0, 1) := by decide +kernel
theorem dX9_freshen_15 : decode cX9_freshen 15 = .ok (.aload_n 0, 1) := by decide +kernel
theorem dX9_freshen_16 : decode cX9_freshen 16 = .ok (.getfield 152, 3) := by decide +kernel
theorem dX9_freshen_19 : decode cX9_freshen 19 = .ok (.iconst 0, 1) := by decide +kernel
theorem dX9_freshen_20 : decode cX9_freshen 20 = .ok (.iconst 0, 1) := by decide +kernel
theorem dX9_freshen_21 : decode cX9_freshen 21 = .ok (.invokevirtual 202, 3) := by decide +kernel
theorem dX9_freshen_24 : decode cX9_freshen 24 = .ok (.putfield 210, 3) := by decide +kernel
theorem dX9_freshen_27 : decode cX9_freshen 27 = .ok (.aload_n 0, 1) := by decide +kernel
theorem dX9_freshen_28 : decode cX9_freshen 28 = .ok (.invokevirtual 216, 3) := by decide +kernel
theorem dX9_freshen_31 : decode cX9_freshen 31 = .ok (.aload_n 0, 1) := by decide +kernel
theorem dX9_freshen_32 : decode cX9_freshen 32 = .ok (.iconst 0, 1) := by decide +kernel
theorem dX9_freshen_33 : decode cX9_freshen 33 = .ok (.putfield 219, 3) := by decide +kernel
theorem dX9_freshen_36 : decode cX9_freshen 36 = .ok (.aload_n 0, 1) := by decide +kernel
theorem dX9_freshen_37 : decode cX9_freshen 37 = .ok (.iconst (-1), 1) := by decide +kernel
theorem dX9_freshen_38 : decode cX9_freshen 38 = .ok (.putfield 222, 3) := by decide +kernel
theorem dX9_freshen_41 : decode cX9_freshen 41 = .ok (.iconst 0, 1) := by decide +kernel
theorem dX9_freshen_42 : decode cX9_freshen 42 = .ok (.istore_n 1, 1) := by decide +kernel
theorem dX9_freshen_43 : decode cX9_freshen 43 = .ok (.iload_n 1, 1) := by decide +kernel
theorem dX9_freshen_44 : decode cX9_freshen 44 = .ok (.aload_n 0, 1) := by decide +kernel
theorem dX9_freshen_45 : decode cX9_freshen 45 = .ok (.getfield 155, 3) := by decide +kernel
theorem dX9_freshen_48 : decode cX9_freshen 48 = .ok (.if_icmp .ge 157, 3) := by decide +kernel
theorem dX9_freshen_51 : decode cX9_freshen 51 = .ok (.aload_n 0, 1) := by decide +kernel
theorem dX9_freshen_52 : decode cX9_freshen 52 = .ok (.getfield 71, 3) := by decide +kernel
theorem dX9_freshen_55 : decode cX9_freshen 55 = .ok (.iload_n 1, 1) := by decide +kernel
theorem dX9_freshen_56 : decode cX9_freshen 56 = .ok (.iconst 0, 1) := by decide +kernel
theorem dX9_freshen_57 : decode cX9_freshen 57 = .ok (.iastore, 1) := by decide +kernel
theorem dX9_freshen_58 : decode cX9_freshen 58 = .ok (.iconst 0, 1) := by decide +kernel
theorem dX9_freshen_59 : decode cX9_freshen 59 = .ok (.istore_n 2, 1) := by decide +kernel
theorem dX9_freshen_60 : decode cX9_freshen 60 = .ok (.iload_n 2, 1) := by decide +kernel
theorem dX9_freshen_61 : decode cX9_freshen 61 = .ok (.sipush 2187, 3) := by decide +kernel
theorem dX9_freshen_64 : decode cX9_freshen 64 = .ok (.if_icmp .ge 106, 3) := by decide +kernel
theorem dX9_freshen_67 : decode cX9_freshen 67 = .ok (.sipush 2187, 3) := by decide +kernel
theorem dX9_freshen_70 : decode cX9_freshen 70 = .ok (.iload_n 1, 1) := by decide +kernel
theorem dX9_freshen_71 : decode cX9_freshen 71 = .ok (.imul, 1) := by decide +kernel
theorem dX9_freshen_72 : decode cX9_freshen 72 = .ok (.iload_n 2, 1) := by decide +kernel
theorem dX9_freshen_73 : decode cX9_freshen 73 = .ok (.iadd, 1) := by decide +kernel
theorem dX9_freshen_74 : decode cX9_freshen 74 = .ok (.istore_n 3, 1) := by decide +kernel
theorem dX9_freshen_75 : decode cX9_freshen 75 = .ok (.aload_n 0, 1) := by decide +kernel
theorem dX9_freshen_76 : decode cX9_freshen 76 = .ok (.getfield 71, 3) := by decide +kernel
theorem dX9_freshen_79 : decode cX9_freshen 79 = .ok (.iload_n 1, 1) := by decide +kernel
theorem dX9_freshen_80 : decode cX9_freshen 80 = .ok (.dup2, 1) := by decide +kernel
theorem dX9_freshen_81 : decode cX9_freshen 81 = .ok (.iaload, 1) := by decide +kernel
theorem dX9_freshen_82 : decode cX9_freshen 82 = .ok (.aload_n 0, 1) := by decide +kernel
theorem dX9_freshen_83 : decode cX9_freshen 83 = .ok (.getfield 62, 3) := by decide +kernel
theorem dX9_freshen_86 : decode cX9_freshen 86 = .ok (.iload_n 3, 1) := by decide +kernel
theorem dX9_freshen_87 : decode cX9_freshen 87 = .ok (.iaload, 1) := by decide +kernel
theorem dX9_freshen_88 : decode cX9_freshen 88 = .ok (.ldc 188, 2) := by decide +kernel
theorem dX9_freshen_90 : decode cX9_freshen 90 = .ok (.if_icmp .ge 7, 3) := by decide +kernel
theorem dX9_freshen_93 : decode cX9_freshen 93 = .ok (.iconst 1, 1) := by decide +kernel
theorem dX9_freshen_94 : decode cX9_freshen 94 = .ok (.goto 4, 3) := by decide +kernel
theorem dX9_freshen_97 : decode cX9_freshen 97 = .ok (.iconst 0, 1) := by decide +kernel
theorem dX9_freshen_98 : decode cX9_freshen 98 = .ok (.iadd, 1) := by decide +kernel
theorem dX9_freshen_99 : decode cX9_freshen 99 = .ok (.iastore, 1) := by decide +kernel
theorem dX9_freshen_100 : decode cX9_freshen 100 = .ok (.aload_n 0, 1) := by decide +kernel
theorem dX9_freshen_101 : decode cX9_freshen 101 = .ok (.dup, 1) := by decide +kernel
theorem dX9_freshen_102 : decode cX9_freshen 102 = .ok (.getfield 219, 3) := by decide +kernel
theorem dX9_freshen_105 : decode cX9_freshen 105 = .ok (.iload_n 1, 1) := by decide +kernel
theorem dX9_freshen_106 : decode cX9_freshen 106 = .ok (.aload_n 0, 1) := by decide +kernel
theorem dX9_freshen_107 : decode cX9_freshen 107 = .ok (.getfield 155, 3) := by decide +kernel
theorem dX9_freshen_110 : decode cX9_freshen 110 = .ok (.iconst 1, 1) := by decide +kernel
theorem dX9_freshen_111 : decode cX9_freshen 111 = .ok (.isub, 1) := by decide +kernel
theorem dX9_freshen_112 : decode cX9_freshen 112 = .ok (.if_icmp .ne 36, 3) := by decide +kernel
theorem dX9_freshen_115 : decode cX9_freshen 115 = .ok (.aload_n 0, 1) := by decide +kernel
