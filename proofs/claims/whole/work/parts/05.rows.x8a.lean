theorem dX8_thrown_0 : decode cX8_thrown 0 = .ok (.aload_n 0, 1) := by decide +kernel
theorem dX8_thrown_1 : decode cX8_thrown 1 = .ok (.getfield 1, 3) := by decide +kernel
theorem dX8_thrown_4 : decode cX8_thrown 4 = .ok (.ireturn, 1) := by decide +kernel
theorem dX8_in_0 : decode cX8_in 0 = .ok (.lload_n 0, 1) := by decide +kernel
theorem dX8_in_1 : decode cX8_in 1 = .ok (.lload_n 2, 1) := by decide +kernel
theorem dX8_in_2 : decode cX8_in 2 = .ok (.lcmp, 1) := by decide +kernel
theorem dX8_in_3 : decode cX8_in 3 = .ok (.ifCond .lt 14, 3) := by decide +kernel
theorem dX8_in_6 : decode cX8_in 6 = .ok (.lload_n 0, 1) := by decide +kernel
theorem dX8_in_7 : decode cX8_in 7 = .ok (.lload 4, 2) := by decide +kernel
theorem dX8_in_9 : decode cX8_in 9 = .ok (.lcmp, 1) := by decide +kernel
theorem dX8_in_10 : decode cX8_in 10 = .ok (.ifCond .gt 7, 3) := by decide +kernel
theorem dX8_in_13 : decode cX8_in 13 = .ok (.iconst 1, 1) := by decide +kernel
theorem dX8_in_14 : decode cX8_in 14 = .ok (.goto 4, 3) := by decide +kernel
theorem dX8_in_17 : decode cX8_in 17 = .ok (.iconst 0, 1) := by decide +kernel
theorem dX8_in_18 : decode cX8_in 18 = .ok (.ireturn, 1) := by decide +kernel
theorem dX8_refuse_0 : decode cX8_refuse 0 = .ok (.aload_n 0, 1) := by decide +kernel
theorem dX8_refuse_1 : decode cX8_refuse 1 = .ok (.iconst 1, 1) := by decide +kernel
theorem dX8_refuse_2 : decode cX8_refuse 2 = .ok (.putfield 1, 3) := by decide +kernel
theorem dX8_refuse_5 : decode cX8_refuse 5 = .ok (.iconst 0, 1) := by decide +kernel
theorem dX8_refuse_6 : decode cX8_refuse 6 = .ok (.ireturn, 1) := by decide +kernel
set_option maxRecDepth 20000 in
theorem ggX8_init_X8_empties : GoodIn wsX8_init wsX8_empties := goodIn_r _ [54, 7, 8, 9, 10, 12, 13, 14, 15, 16, 17, 55, 56, 57, 58, 59, 60, 61, 62, 63, 64, 65, 66, 67, 68, 69, 70, 71, 72, 73, 74, 75, 76, 77, 78, 79, 80, 81, 82, 83, 84, 85, 86, 87, 88, 89, 90, 91, 92, 93, 94, 95, 96, 97, 98, 99, 100, 101, 102, 103, 104, 105, 106, 107, 108, 109, 110, 111, 112, 113, 114, 115] (by decide +kernel) (by decide +kernel)
set_option maxRecDepth 20000 in
theorem gX8_init_X8_empties : GoodIn wsX8_init (wsV RX8 145 RX8 yX8_empties wsX8_empties) := goodIn_app (goodIn_of _ (by decide +kernel)) ggX8_init_X8_empties
theorem dX8_init_0 : decode cX8_init 0 = .ok (.aload_n 0, 1) := by decide +kernel
theorem dX8_init_1 : decode cX8_init 1 = .ok (.invokespecial 7, 3) := by decide +kernel
theorem dX8_init_4 : decode cX8_init 4 = .ok (.aload_n 0, 1) := by decide +kernel
theorem dX8_init_5 : decode cX8_init 5 = .ok (.iconst 1, 1) := by decide +kernel
theorem dX8_init_6 : decode cX8_init 6 = .ok (.putfield 13, 3) := by decide +kernel
theorem dX8_init_9 : decode cX8_init 9 = .ok (.aload_n 0, 1) := by decide +kernel
theorem dX8_init_10 : decode cX8_init 10 = .ok (.iconst 1, 1) := by decide +kernel
theorem dX8_init_11 : decode cX8_init 11 = .ok (.putfield 16, 3) := by decide +kernel
theorem dX8_init_14 : decode cX8_init 14 = .ok (.aload_n 0, 1) := by decide +kernel
theorem dX8_init_15 : decode cX8_init 15 = .ok (.bipush 64, 2) := by decide +kernel
theorem dX8_init_17 : decode cX8_init 17 = .ok (.newarray .int, 2) := by decide +kernel
theorem dX8_init_19 : decode cX8_init 19 = .ok (.putfield 19, 3) := by decide +kernel
theorem dX8_init_22 : decode cX8_init 22 = .ok (.aload_n 0, 1) := by decide +kernel
theorem dX8_init_23 : decode cX8_init 23 = .ok (.bipush 64, 2) := by decide +kernel
theorem dX8_init_25 : decode cX8_init 25 = .ok (.newarray .int, 2) := by decide +kernel
theorem dX8_init_27 : decode cX8_init 27 = .ok (.putfield 23, 3) := by decide +kernel
theorem dX8_init_30 : decode cX8_init 30 = .ok (.aload_n 0, 1) := by decide +kernel
theorem dX8_init_31 : decode cX8_init 31 = .ok (.bipush 64, 2) := by decide +kernel
theorem dX8_init_33 : decode cX8_init 33 = .ok (.newarray .int, 2) := by decide +kernel
theorem dX8_init_35 : decode cX8_init 35 = .ok (.putfield 26, 3) := by decide +kernel
theorem dX8_init_38 : decode cX8_init 38 = .ok (.aload_n 0, 1) := by decide +kernel
theorem dX8_init_39 : decode cX8_init 39 = .ok (.bipush 64, 2) := by decide +kernel
theorem dX8_init_41 : decode cX8_init 41 = .ok (.newarray .int, 2) := by decide +kernel
theorem dX8_init_43 : decode cX8_init 43 = .ok (.putfield 29, 3) := by decide +kernel
theorem dX8_init_46 : decode cX8_init 46 = .ok (.aload_n 0, 1) := by decide +kernel
theorem dX8_init_47 : decode cX8_init 47 = .ok (.bipush 64, 2) := by decide +kernel
theorem dX8_init_49 : decode cX8_init 49 = .ok (.newarray .boolean, 2) := by decide +kernel
theorem dX8_init_51 : decode cX8_init 51 = .ok (.putfield 32, 3) := by decide +kernel
theorem dX8_init_54 : decode cX8_init 54 = .ok (.aload_n 0, 1) := by decide +kernel
theorem dX8_init_55 : decode cX8_init 55 = .ok (.bipush 64, 2) := by decide +kernel
theorem dX8_init_57 : decode cX8_init 57 = .ok (.newarray .int, 2) := by decide +kernel
theorem dX8_init_59 : decode cX8_init 59 = .ok (.putfield 36, 3) := by decide +kernel
theorem dX8_init_62 : decode cX8_init 62 = .ok (.aload_n 0, 1) := by decide +kernel
theorem dX8_init_63 : decode cX8_init 63 = .ok (.bipush 64, 2) := by decide +kernel
theorem dX8_init_65 : decode cX8_init 65 = .ok (.newarray .int, 2) := by decide +kernel
theorem dX8_init_67 : decode cX8_init 67 = .ok (.putfield 39, 3) := by decide +kernel
theorem dX8_init_70 : decode cX8_init 70 = .ok (.aload_n 0, 1) := by decide +kernel
theorem dX8_init_71 : decode cX8_init 71 = .ok (.bipush 64, 2) := by decide +kernel
theorem dX8_init_73 : decode cX8_init 73 = .ok (.newarray .int, 2) := by decide +kernel
theorem dX8_init_75 : decode cX8_init 75 = .ok (.putfield 42, 3) := by decide +kernel
theorem dX8_init_78 : decode cX8_init 78 = .ok (.aload_n 0, 1) := by decide +kernel
theorem dX8_init_79 : decode cX8_init 79 = .ok (.bipush 64, 2) := by decide +kernel
theorem dX8_init_81 : decode cX8_init 81 = .ok (.newarray .int, 2) := by decide +kernel
theorem dX8_init_83 : decode cX8_init 83 = .ok (.putfield 45, 3) := by decide +kernel
theorem dX8_init_86 : decode cX8_init 86 = .ok (.aload_n 0, 1) := by decide +kernel
theorem dX8_init_87 : decode cX8_init 87 = .ok (.bipush 64, 2) := by decide +kernel
theorem dX8_init_89 : decode cX8_init 89 = .ok (.newarray .int, 2) := by decide +kernel
theorem dX8_init_91 : decode cX8_init 91 = .ok (.putfield 48, 3) := by decide +kernel
theorem dX8_init_94 : decode cX8_init 94 = .ok (.aload_n 0, 1) := by decide +kernel
theorem dX8_init_95 : decode cX8_init 95 = .ok (.bipush 12, 2) := by decide +kernel
theorem dX8_init_97 : decode cX8_init 97 = .ok (.newarray .int, 2) := by decide +kernel
theorem dX8_init_99 : decode cX8_init 99 = .ok (.putfield 51, 3) := by decide +kernel
theorem dX8_init_102 : decode cX8_init 102 = .ok (.aload_n 0, 1) := by decide +kernel
theorem dX8_init_103 : decode cX8_init 103 = .ok (.bipush 12, 2) := by decide +kernel
theorem dX8_init_105 : decode cX8_init 105 = .ok (.newarray .boolean, 2) := by decide +kernel
theorem dX8_init_107 : decode cX8_init 107 = .ok (.putfield 54, 3) := by decide +kernel
theorem dX8_init_110 : decode cX8_init 110 = .ok (.aload_n 0, 1) := by decide +kernel
theorem dX8_init_111 : decode cX8_init 111 = .ok (.bipush 64, 2) := by decide +kernel
theorem dX8_init_113 : decode cX8_init 113 = .ok (.newarray .int, 2) := by decide +kernel
theorem dX8_init_115 : decode cX8_init 115 = .ok (.putfield 57, 3) := by decide +kernel
theorem dX8_init_118 : decode cX8_init 118 = .ok (.aload_n 0, 1) := by decide +kernel
theorem dX8_init_119 : decode cX8_init 119 = .ok (.bipush 64, 2) := by decide +kernel
theorem dX8_init_121 : decode cX8_init 121 = .ok (.newarray .int, 2) := by decide +kernel
theorem dX8_init_123 : decode cX8_init 123 = .ok (.putfield 60, 3) := by decide +kernel
theorem dX8_init_126 : decode cX8_init 126 = .ok (.aload_n 0, 1) := by decide +kernel
theorem dX8_init_127 : decode cX8_init 127 = .ok (.bipush 64, 2) := by decide +kernel
theorem dX8_init_129 : decode cX8_init 129 = .ok (.newarray .int, 2) := by decide +kernel
theorem dX8_init_131 : decode cX8_init 131 = .ok (.putfield 63, 3) := by decide +kernel
theorem dX8_init_134 : decode cX8_init 134 = .ok (.aload_n 0, 1) := by decide +kernel
theorem dX8_init_135 : decode cX8_init 135 = .ok (.bipush 12, 2) := by decide +kernel
theorem dX8_init_137 : decode cX8_init 137 = .ok (.newarray .boolean, 2) := by decide +kernel
theorem dX8_init_139 : decode cX8_init 139 = .ok (.putfield 66, 3) := by decide +kernel
theorem dX8_init_142 : decode cX8_init 142 = .ok (.aload_n 0, 1) := by decide +kernel
theorem dX8_init_143 : decode cX8_init 143 = .ok (.ldc 69, 2) := by decide +kernel
theorem dX8_init_145 : decode cX8_init 145 = .ok (.putfield 70, 3) := by decide +kernel
theorem dX8_init_148 : decode cX8_init 148 = .ok (.aload_n 0, 1) := by decide +kernel
theorem dX8_init_149 : decode cX8_init 149 = .ok (.bipush 100, 2) := by decide +kernel
theorem dX8_init_151 : decode cX8_init 151 = .ok (.newarray .int, 2) := by decide +kernel
theorem dX8_init_153 : decode cX8_init 153 = .ok (.putfield 73, 3) := by decide +kernel
theorem dX8_init_156 : decode cX8_init 156 = .ok (.aload_n 0, 1) := by decide +kernel
theorem dX8_init_157 : decode cX8_init 157 = .ok (.bipush 100, 2) := by decide +kernel
theorem dX8_init_159 : decode cX8_init 159 = .ok (.newarray .int, 2) := by decide +kernel
theorem dX8_init_161 : decode cX8_init 161 = .ok (.putfield 76, 3) := by decide +kernel
theorem dX8_init_164 : decode cX8_init 164 = .ok (.aload_n 0, 1) := by decide +kernel
theorem dX8_init_165 : decode cX8_init 165 = .ok (.bipush 100, 2) := by decide +kernel
theorem dX8_init_167 : decode cX8_init 167 = .ok (.newarray .int, 2) := by decide +kernel
theorem dX8_init_169 : decode cX8_init 169 = .ok (.putfield 79, 3) := by decide +kernel
theorem dX8_init_172 : decode cX8_init 172 = .ok (.aload_n 0, 1) := by decide +kernel
theorem dX8_init_173 : decode cX8_init 173 = .ok (.sipush 300, 3) := by decide +kernel
theorem dX8_init_176 : decode cX8_init 176 = .ok (.newarray .int, 2) := by decide +kernel
theorem dX8_init_178 : decode cX8_init 178 = .ok (.putfield 82, 3) := by decide +kernel
theorem dX8_init_181 : decode cX8_init 181 = .ok (.aload_n 0, 1) := by decide +kernel
theorem dX8_init_182 : decode cX8_init 182 = .ok (.sipush 300, 3) := by decide +kernel
theorem dX8_init_185 : decode cX8_init 185 = .ok (.newarray .int, 2) := by decide +kernel
theorem dX8_init_187 : decode cX8_init 187 = .ok (.putfield 85, 3) := by decide +kernel
theorem dX8_init_190 : decode cX8_init 190 = .ok (.aload_n 0, 1) := by decide +kernel
theorem dX8_init_191 : decode cX8_init 191 = .ok (.sipush 300, 3) := by decide +kernel
theorem dX8_init_194 : decode cX8_init 194 = .ok (.newarray .int, 2) := by decide +kernel
theorem dX8_init_196 : decode cX8_init 196 = .ok (.putfield 88, 3) := by decide +kernel
theorem dX8_init_199 : decode cX8_init 199 = .ok (.aload_n 0, 1) := by decide +kernel
theorem dX8_init_200 : decode cX8_init 200 = .ok (.sipush 300, 3) := by decide +kernel
theorem dX8_init_203 : decode cX8_init 203 = .ok (.newarray .int, 2) := by decide +kernel
theorem dX8_init_205 : decode cX8_init 205 = .ok (.putfield 91, 3) := by decide +kernel
theorem dX8_init_208 : decode cX8_init 208 = .ok (.aload_n 0, 1) := by decide +kernel
theorem dX8_init_209 : decode cX8_init 209 = .ok (.sipush 300, 3) := by decide +kernel
theorem dX8_init_212 : decode cX8_init 212 = .ok (.newarray .int, 2) := by decide +kernel
theorem dX8_init_214 : decode cX8_init 214 = .ok (.putfield 94, 3) := by decide +kernel
theorem dX8_init_217 : decode cX8_init 217 = .ok (.aload_n 0, 1) := by decide +kernel
theorem dX8_init_218 : decode cX8_init 218 = .ok (.sipush 300, 3) := by decide +kernel
theorem dX8_init_221 : decode cX8_init 221 = .ok (.newarray .int, 2) := by decide +kernel
theorem dX8_init_223 : decode cX8_init 223 = .ok (.putfield 97, 3) := by decide +kernel
theorem dX8_init_226 : decode cX8_init 226 = .ok (.aload_n 0, 1) := by decide +kernel
theorem dX8_init_227 : decode cX8_init 227 = .ok (.bipush 64, 2) := by decide +kernel
theorem dX8_init_229 : decode cX8_init 229 = .ok (.newarray .int, 2) := by decide +kernel
theorem dX8_init_231 : decode cX8_init 231 = .ok (.putfield 100, 3) := by decide +kernel
theorem dX8_init_234 : decode cX8_init 234 = .ok (.aload_n 0, 1) := by decide +kernel
theorem dX8_init_235 : decode cX8_init 235 = .ok (.bipush 64, 2) := by decide +kernel
theorem dX8_init_237 : decode cX8_init 237 = .ok (.newarray .boolean, 2) := by decide +kernel
theorem dX8_init_239 : decode cX8_init 239 = .ok (.putfield 103, 3) := by decide +kernel
theorem dX8_init_242 : decode cX8_init 242 = .ok (.aload_n 0, 1) := by decide +kernel
theorem dX8_init_243 : decode cX8_init 243 = .ok (.sipush 300, 3) := by decide +kernel
theorem dX8_init_246 : decode cX8_init 246 = .ok (.newarray .int, 2) := by decide +kernel
theorem dX8_init_248 : decode cX8_init 248 = .ok (.putfield 106, 3) := by decide +kernel
theorem dX8_init_251 : decode cX8_init 251 = .ok (.aload_n 0, 1) := by decide +kernel
theorem dX8_init_252 : decode cX8_init 252 = .ok (.sipush 300, 3) := by decide +kernel
theorem dX8_init_255 : decode cX8_init 255 = .ok (.newarray .int, 2) := by decide +kernel
theorem dX8_init_257 : decode cX8_init 257 = .ok (.putfield 109, 3) := by decide +kernel
theorem dX8_init_260 : decode cX8_init 260 = .ok (.aload_n 0, 1) := by decide +kernel
theorem dX8_init_261 : decode cX8_init 261 = .ok (.bipush 100, 2) := by decide +kernel
theorem dX8_init_263 : decode cX8_init 263 = .ok (.newarray .int, 2) := by decide +kernel
theorem dX8_init_265 : decode cX8_init 265 = .ok (.putfield 112, 3) := by decide +kernel
theorem dX8_init_268 : decode cX8_init 268 = .ok (.aload_n 0, 1) := by decide +kernel
theorem dX8_init_269 : decode cX8_init 269 = .ok (.bipush 8, 2) := by decide +kernel
theorem dX8_init_271 : decode cX8_init 271 = .ok (.newarray .int, 2) := by decide +kernel
theorem dX8_init_273 : decode cX8_init 273 = .ok (.putfield 115, 3) := by decide +kernel
theorem dX8_init_276 : decode cX8_init 276 = .ok (.aload_n 0, 1) := by decide +kernel
theorem dX8_init_277 : decode cX8_init 277 = .ok (.bipush 8, 2) := by decide +kernel
theorem dX8_init_279 : decode cX8_init 279 = .ok (.newarray .int, 2) := by decide +kernel
theorem dX8_init_281 : decode cX8_init 281 = .ok (.putfield 118, 3) := by decide +kernel
theorem dX8_init_284 : decode cX8_init 284 = .ok (.aload_n 0, 1) := by decide +kernel
theorem dX8_init_285 : decode cX8_init 285 = .ok (.bipush 8, 2) := by decide +kernel
theorem dX8_init_287 : decode cX8_init 287 = .ok (.newarray .int, 2) := by decide +kernel
theorem dX8_init_289 : decode cX8_init 289 = .ok (.putfield 121, 3) := by decide +kernel
theorem dX8_init_292 : decode cX8_init 292 = .ok (.aload_n 0, 1) := by decide +kernel
theorem dX8_init_293 : decode cX8_init 293 = .ok (.bipush 8, 2) := by decide +kernel
theorem dX8_init_295 : decode cX8_init 295 = .ok (.newarray .int, 2) := by decide +kernel
theorem dX8_init_297 : decode cX8_init 297 = .ok (.putfield 124, 3) := by decide +kernel
theorem dX8_init_300 : decode cX8_init 300 = .ok (.aload_n 0, 1) := by decide +kernel
theorem dX8_init_301 : decode cX8_init 301 = .ok (.sipush 168, 3) := by decide +kernel
theorem dX8_init_304 : decode cX8_init 304 = .ok (.newarray .int, 2) := by decide +kernel
theorem dX8_init_306 : decode cX8_init 306 = .ok (.putfield 127, 3) := by decide +kernel
theorem dX8_init_309 : decode cX8_init 309 = .ok (.aload_n 0, 1) := by decide +kernel
theorem dX8_init_310 : decode cX8_init 310 = .ok (.sipush 168, 3) := by decide +kernel
theorem dX8_init_313 : decode cX8_init 313 = .ok (.newarray .int, 2) := by decide +kernel
theorem dX8_init_315 : decode cX8_init 315 = .ok (.putfield 130, 3) := by decide +kernel
theorem dX8_init_318 : decode cX8_init 318 = .ok (.aload_n 0, 1) := by decide +kernel
theorem dX8_init_319 : decode cX8_init 319 = .ok (.sipush 168, 3) := by decide +kernel
theorem dX8_init_322 : decode cX8_init 322 = .ok (.newarray .int, 2) := by decide +kernel
theorem dX8_init_324 : decode cX8_init 324 = .ok (.putfield 133, 3) := by decide +kernel
theorem dX8_init_327 : decode cX8_init 327 = .ok (.aload_n 0, 1) := by decide +kernel
theorem dX8_init_328 : decode cX8_init 328 = .ok (.bipush 12, 2) := by decide +kernel
theorem dX8_init_330 : decode cX8_init 330 = .ok (.newarray .int, 2) := by decide +kernel
theorem dX8_init_332 : decode cX8_init 332 = .ok (.putfield 136, 3) := by decide +kernel
theorem dX8_init_335 : decode cX8_init 335 = .ok (.aload_n 0, 1) := by decide +kernel
theorem dX8_init_336 : decode cX8_init 336 = .ok (.bipush 12, 2) := by decide +kernel
theorem dX8_init_338 : decode cX8_init 338 = .ok (.newarray .int, 2) := by decide +kernel
theorem dX8_init_340 : decode cX8_init 340 = .ok (.putfield 139, 3) := by decide +kernel
theorem dX8_init_343 : decode cX8_init 343 = .ok (.aload_n 0, 1) := by decide +kernel
theorem dX8_init_344 : decode cX8_init 344 = .ok (.bipush 12, 2) := by decide +kernel
theorem dX8_init_346 : decode cX8_init 346 = .ok (.newarray .int, 2) := by decide +kernel
theorem dX8_init_348 : decode cX8_init 348 = .ok (.putfield 142, 3) := by decide +kernel
theorem dX8_init_351 : decode cX8_init 351 = .ok (.aload_n 0, 1) := by decide +kernel
theorem dX8_init_352 : decode cX8_init 352 = .ok (.invokevirtual 145, 3) := by decide +kernel
theorem dX8_init_355 : decode cX8_init 355 = .ok (.return_, 1) := by decide +kernel
theorem dX8_ringOf_0 : decode cX8_ringOf 0 = .ok (.iload_n 1, 1) := by decide +kernel
theorem dX8_ringOf_1 : decode cX8_ringOf 1 = .ok (.bipush 8, 2) := by decide +kernel
theorem dX8_ringOf_3 : decode cX8_ringOf 3 = .ok (.irem, 1) := by decide +kernel
theorem dX8_ringOf_4 : decode cX8_ringOf 4 = .ok (.ireturn, 1) := by decide +kernel
theorem dX8_heightOf_0 : decode cX8_heightOf 0 = .ok (.iload_n 1, 1) := by decide +kernel
theorem dX8_heightOf_1 : decode cX8_heightOf 1 = .ok (.bipush 8, 2) := by decide +kernel
theorem dX8_heightOf_3 : decode cX8_heightOf 3 = .ok (.idiv, 1) := by decide +kernel
theorem dX8_heightOf_4 : decode cX8_heightOf 4 = .ok (.ireturn, 1) := by decide +kernel
theorem dX8_share_0 : decode cX8_share 0 = .ok (.iconst 2, 1) := by decide +kernel
theorem dX8_share_1 : decode cX8_share 1 = .ok (.iload_n 0, 1) := by decide +kernel
theorem dX8_share_2 : decode cX8_share 2 = .ok (.bipush 8, 2) := by decide +kernel
theorem dX8_share_4 : decode cX8_share 4 = .ok (.irem, 1) := by decide +kernel
theorem dX8_share_5 : decode cX8_share 5 = .ok (.imul, 1) := by decide +kernel
theorem dX8_share_6 : decode cX8_share 6 = .ok (.iconst 1, 1) := by decide +kernel
theorem dX8_share_7 : decode cX8_share 7 = .ok (.iadd, 1) := by decide +kernel
theorem dX8_share_8 : decode cX8_share 8 = .ok (.ireturn, 1) := by decide +kernel
set_option maxRecDepth 20000 in
theorem ggX8_isCell_X8_in : GoodIn wsX8_isCell wsX8_in := goodIn_r _ [6] (by decide +kernel) (by decide +kernel)
set_option maxRecDepth 20000 in
theorem gX8_isCell_X8_in : GoodIn wsX8_isCell (va_wsS RX8 148 yX8_in wsX8_in) := goodIn_app (goodIn_of _ (by decide +kernel)) ggX8_isCell_X8_in
theorem dX8_isCell_0 : decode cX8_isCell 0 = .ok (.iload_n 1, 1) := by decide +kernel
theorem dX8_isCell_1 : decode cX8_isCell 1 = .ok (.i2l, 1) := by decide +kernel
theorem dX8_isCell_2 : decode cX8_isCell 2 = .ok (.lconst 0, 1) := by decide +kernel
theorem dX8_isCell_3 : decode cX8_isCell 3 = .ok (.aload_n 0, 1) := by decide +kernel
theorem dX8_isCell_4 : decode cX8_isCell 4 = .ok (.getfield 13, 3) := by decide +kernel
theorem dX8_isCell_7 : decode cX8_isCell 7 = .ok (.iconst 1, 1) := by decide +kernel
theorem dX8_isCell_8 : decode cX8_isCell 8 = .ok (.isub, 1) := by decide +kernel
theorem dX8_isCell_9 : decode cX8_isCell 9 = .ok (.i2l, 1) := by decide +kernel
theorem dX8_isCell_10 : decode cX8_isCell 10 = .ok (.invokestatic 148, 3) := by decide +kernel
theorem dX8_isCell_13 : decode cX8_isCell 13 = .ok (.ifCond .eq 23, 3) := by decide +kernel
theorem dX8_isCell_16 : decode cX8_isCell 16 = .ok (.iload_n 2, 1) := by decide +kernel
theorem dX8_isCell_17 : decode cX8_isCell 17 = .ok (.i2l, 1) := by decide +kernel
theorem dX8_isCell_18 : decode cX8_isCell 18 = .ok (.lconst 0, 1) := by decide +kernel
theorem dX8_isCell_19 : decode cX8_isCell 19 = .ok (.aload_n 0, 1) := by decide +kernel
theorem dX8_isCell_20 : decode cX8_isCell 20 = .ok (.getfield 16, 3) := by decide +kernel
theorem dX8_isCell_23 : decode cX8_isCell 23 = .ok (.iconst 1, 1) := by decide +kernel
theorem dX8_isCell_24 : decode cX8_isCell 24 = .ok (.isub, 1) := by decide +kernel
theorem dX8_isCell_25 : decode cX8_isCell 25 = .ok (.i2l, 1) := by decide +kernel
theorem dX8_isCell_26 : decode cX8_isCell 26 = .ok (.invokestatic 148, 3) := by decide +kernel
theorem dX8_isCell_29 : decode cX8_isCell 29 = .ok (.ifCond .eq 7, 3) := by decide +kernel
theorem dX8_isCell_32 : decode cX8_isCell 32 = .ok (.iconst 1, 1) := by decide +kernel
theorem dX8_isCell_33 : decode cX8_isCell 33 = .ok (.goto 4, 3) := by decide +kernel
theorem dX8_isCell_36 : decode cX8_isCell 36 = .ok (.iconst 0, 1) := by decide +kernel
theorem dX8_isCell_37 : decode cX8_isCell 37 = .ok (.ireturn, 1) := by decide +kernel
set_option maxRecDepth 20000 in
theorem ggX8_isOutside_X8_ringOf : GoodIn wsX8_isOutside wsX8_ringOf := goodIn_r _ [7] (by decide +kernel) (by decide +kernel)
set_option maxRecDepth 20000 in
theorem gX8_isOutside_X8_ringOf : GoodIn wsX8_isOutside (wsV RX8 152 RX8 yX8_ringOf wsX8_ringOf) := goodIn_app (goodIn_of _ (by decide +kernel)) ggX8_isOutside_X8_ringOf
set_option maxRecDepth 20000 in
theorem ggX8_isOutside_X8_heightOf : GoodIn wsX8_isOutside wsX8_heightOf := goodIn_r _ [11] (by decide +kernel) (by decide +kernel)
set_option maxRecDepth 20000 in
theorem gX8_isOutside_X8_heightOf : GoodIn wsX8_isOutside (wsV RX8 156 RX8 yX8_heightOf wsX8_heightOf) := goodIn_app (goodIn_of _ (by decide +kernel)) ggX8_isOutside_X8_heightOf
theorem dX8_isOutside_0 : decode cX8_isOutside 0 = .ok (.aload_n 0, 1) := by decide +kernel
theorem dX8_isOutside_1 : decode cX8_isOutside 1 = .ok (.iload_n 1, 1) := by decide +kernel
theorem dX8_isOutside_2 : decode cX8_isOutside 2 = .ok (.invokevirtual 152, 3) := by decide +kernel
theorem dX8_isOutside_5 : decode cX8_isOutside 5 = .ok (.aload_n 0, 1) := by decide +kernel
theorem dX8_isOutside_6 : decode cX8_isOutside 6 = .ok (.getfield 13, 3) := by decide +kernel
theorem dX8_isOutside_9 : decode cX8_isOutside 9 = .ok (.iconst 1, 1) := by decide +kernel
theorem dX8_isOutside_10 : decode cX8_isOutside 10 = .ok (.isub, 1) := by decide +kernel
theorem dX8_isOutside_11 : decode cX8_isOutside 11 = .ok (.if_icmp .eq 17, 3) := by decide +kernel
theorem dX8_isOutside_14 : decode cX8_isOutside 14 = .ok (.aload_n 0, 1) := by decide +kernel
theorem dX8_isOutside_15 : decode cX8_isOutside 15 = .ok (.iload_n 1, 1) := by decide +kernel
theorem dX8_isOutside_16 : decode cX8_isOutside 16 = .ok (.invokevirtual 156, 3) := by decide +kernel
theorem dX8_isOutside_19 : decode cX8_isOutside 19 = .ok (.aload_n 0, 1) := by decide +kernel
theorem dX8_isOutside_20 : decode cX8_isOutside 20 = .ok (.getfield 16, 3) := by decide +kernel
theorem dX8_isOutside_23 : decode cX8_isOutside 23 = .ok (.iconst 1, 1) := by decide +kernel
theorem dX8_isOutside_24 : decode cX8_isOutside 24 = .ok (.isub, 1) := by decide +kernel
theorem dX8_isOutside_25 : decode cX8_isOutside 25 = .ok (.if_icmp .ne 7, 3) := by decide +kernel
theorem dX8_isOutside_28 : decode cX8_isOutside 28 = .ok (.iconst 1, 1) := by decide +kernel
theorem dX8_isOutside_29 : decode cX8_isOutside 29 = .ok (.goto 4, 3) := by decide +kernel
theorem dX8_isOutside_32 : decode cX8_isOutside 32 = .ok (.iconst 0, 1) := by decide +kernel
theorem dX8_isOutside_33 : decode cX8_isOutside 33 = .ok (.ireturn, 1) := by decide +kernel
theorem dX8_empties_0 : decode cX8_empties 0 = .ok (.iconst 0, 1) := by decide +kernel
theorem dX8_empties_1 : decode cX8_empties 1 = .ok (.istore_n 1, 1) := by decide +kernel
theorem dX8_empties_2 : decode cX8_empties 2 = .ok (.iload_n 1, 1) := by decide +kernel
theorem dX8_empties_3 : decode cX8_empties 3 = .ok (.bipush 64, 2) := by decide +kernel
theorem dX8_empties_5 : decode cX8_empties 5 = .ok (.if_icmp .ge 79, 3) := by decide +kernel
theorem dX8_empties_8 : decode cX8_empties 8 = .ok (.aload_n 0, 1) := by decide +kernel
theorem dX8_empties_9 : decode cX8_empties 9 = .ok (.getfield 19, 3) := by decide +kernel
theorem dX8_empties_12 : decode cX8_empties 12 = .ok (.iload_n 1, 1) := by decide +kernel
theorem dX8_empties_13 : decode cX8_empties 13 = .ok (.iconst 0, 1) := by decide +kernel
theorem dX8_empties_14 : decode cX8_empties 14 = .ok (.iastore, 1) := by decide +kernel
theorem dX8_empties_15 : decode cX8_empties 15 = .ok (.aload_n 0, 1) := by decide +kernel
theorem dX8_empties_16 : decode cX8_empties 16 = .ok (.getfield 23, 3) := by decide +kernel
theorem dX8_empties_19 : decode cX8_empties 19 = .ok (.iload_n 1, 1) := by decide +kernel
theorem dX8_empties_20 : decode cX8_empties 20 = .ok (.iconst 0, 1) := by decide +kernel
theorem dX8_empties_21 : decode cX8_empties 21 = .ok (.iastore, 1) := by decide +kernel
theorem dX8_empties_22 : decode cX8_empties 22 = .ok (.aload_n 0, 1) := by decide +kernel
theorem dX8_empties_23 : decode cX8_empties 23 = .ok (.getfield 26, 3) := by decide +kernel
theorem dX8_empties_26 : decode cX8_empties 26 = .ok (.iload_n 1, 1) := by decide +kernel
theorem dX8_empties_27 : decode cX8_empties 27 = .ok (.iconst 0, 1) := by decide +kernel
theorem dX8_empties_28 : decode cX8_empties 28 = .ok (.iastore, 1) := by decide +kernel
theorem dX8_empties_29 : decode cX8_empties 29 = .ok (.aload_n 0, 1) := by decide +kernel
theorem dX8_empties_30 : decode cX8_empties 30 = .ok (.getfield 29, 3) := by decide +kernel
theorem dX8_empties_33 : decode cX8_empties 33 = .ok (.iload_n 1, 1) := by decide +kernel
theorem dX8_empties_34 : decode cX8_empties 34 = .ok (.iconst 0, 1) := by decide +kernel
theorem dX8_empties_35 : decode cX8_empties 35 = .ok (.iastore, 1) := by decide +kernel
theorem dX8_empties_36 : decode cX8_empties 36 = .ok (.aload_n 0, 1) := by decide +kernel
theorem dX8_empties_37 : decode cX8_empties 37 = .ok (.getfield 32, 3) := by decide +kernel
theorem dX8_empties_40 : decode cX8_empties 40 = .ok (.iload_n 1, 1) := by decide +kernel
theorem dX8_empties_41 : decode cX8_empties 41 = .ok (.iconst 0, 1) := by decide +kernel
theorem dX8_empties_42 : decode cX8_empties 42 = .ok (.bastore, 1) := by decide +kernel
theorem dX8_empties_43 : decode cX8_empties 43 = .ok (.aload_n 0, 1) := by decide +kernel
theorem dX8_empties_44 : decode cX8_empties 44 = .ok (.getfield 36, 3) := by decide +kernel
theorem dX8_empties_47 : decode cX8_empties 47 = .ok (.iload_n 1, 1) := by decide +kernel
theorem dX8_empties_48 : decode cX8_empties 48 = .ok (.iconst 0, 1) := by decide +kernel
theorem dX8_empties_49 : decode cX8_empties 49 = .ok (.iastore, 1) := by decide +kernel
theorem dX8_empties_50 : decode cX8_empties 50 = .ok (.aload_n 0, 1) := by decide +kernel
theorem dX8_empties_51 : decode cX8_empties 51 = .ok (.getfield 39, 3) := by decide +kernel
theorem dX8_empties_54 : decode cX8_empties 54 = .ok (.iload_n 1, 1) := by decide +kernel
theorem dX8_empties_55 : decode cX8_empties 55 = .ok (.iconst 0, 1) := by decide +kernel
theorem dX8_empties_56 : decode cX8_empties 56 = .ok (.iastore, 1) := by decide +kernel
theorem dX8_empties_57 : decode cX8_empties 57 = .ok (.aload_n 0, 1) := by decide +kernel
theorem dX8_empties_58 : decode cX8_empties 58 = .ok (.getfield 42, 3) := by decide +kernel
theorem dX8_empties_61 : decode cX8_empties 61 = .ok (.iload_n 1, 1) := by decide +kernel
theorem dX8_empties_62 : decode cX8_empties 62 = .ok (.iconst 5, 1) := by decide +kernel
theorem dX8_empties_63 : decode cX8_empties 63 = .ok (.iastore, 1) := by decide +kernel
theorem dX8_empties_64 : decode cX8_empties 64 = .ok (.aload_n 0, 1) := by decide +kernel
theorem dX8_empties_65 : decode cX8_empties 65 = .ok (.getfield 45, 3) := by decide +kernel
theorem dX8_empties_68 : decode cX8_empties 68 = .ok (.iload_n 1, 1) := by decide +kernel
theorem dX8_empties_69 : decode cX8_empties 69 = .ok (.iconst 0, 1) := by decide +kernel
theorem dX8_empties_70 : decode cX8_empties 70 = .ok (.iastore, 1) := by decide +kernel
theorem dX8_empties_71 : decode cX8_empties 71 = .ok (.aload_n 0, 1) := by decide +kernel
theorem dX8_empties_72 : decode cX8_empties 72 = .ok (.getfield 48, 3) := by decide +kernel
theorem dX8_empties_75 : decode cX8_empties 75 = .ok (.iload_n 1, 1) := by decide +kernel
theorem dX8_empties_76 : decode cX8_empties 76 = .ok (.iconst (-1), 1) := by decide +kernel
theorem dX8_empties_77 : decode cX8_empties 77 = .ok (.iastore, 1) := by decide +kernel
theorem dX8_empties_78 : decode cX8_empties 78 = .ok (.iinc 1 1, 3) := by decide +kernel
theorem dX8_empties_81 : decode cX8_empties 81 = .ok (.goto (-79), 3) := by decide +kernel
theorem dX8_empties_84 : decode cX8_empties 84 = .ok (.aload_n 0, 1) := by decide +kernel
theorem dX8_empties_85 : decode cX8_empties 85 = .ok (.iconst 0, 1) := by decide +kernel
theorem dX8_empties_86 : decode cX8_empties 86 = .ok (.putfield 159, 3) := by decide +kernel
theorem dX8_empties_89 : decode cX8_empties 89 = .ok (.aload_n 0, 1) := by decide +kernel
theorem dX8_empties_90 : decode cX8_empties 90 = .ok (.iconst 0, 1) := by decide +kernel
theorem dX8_empties_91 : decode cX8_empties 91 = .ok (.putfield 163, 3) := by decide +kernel
theorem dX8_empties_94 : decode cX8_empties 94 = .ok (.aload_n 0, 1) := by decide +kernel
theorem dX8_empties_95 : decode cX8_empties 95 = .ok (.iconst 0, 1) := by decide +kernel
theorem dX8_empties_96 : decode cX8_empties 96 = .ok (.putfield 166, 3) := by decide +kernel
theorem dX8_empties_99 : decode cX8_empties 99 = .ok (.aload_n 0, 1) := by decide +kernel
theorem dX8_empties_100 : decode cX8_empties 100 = .ok (.iconst 0, 1) := by decide +kernel
theorem dX8_empties_101 : decode cX8_empties 101 = .ok (.putfield 169, 3) := by decide +kernel
theorem dX8_empties_104 : decode cX8_empties 104 = .ok (.aload_n 0, 1) := by decide +kernel
theorem dX8_empties_105 : decode cX8_empties 105 = .ok (.iconst 0, 1) := by decide +kernel
theorem dX8_empties_106 : decode cX8_empties 106 = .ok (.putfield 172, 3) := by decide +kernel
theorem dX8_empties_109 : decode cX8_empties 109 = .ok (.return_, 1) := by decide +kernel
set_option maxRecDepth 20000 in
theorem ggX8_clamp_X8_in : GoodIn wsX8_clamp wsX8_in := goodIn_r _ [9] (by decide +kernel) (by decide +kernel)
set_option maxRecDepth 20000 in
theorem gX8_clamp_X8_in : GoodIn wsX8_clamp (va_wsS RX8 148 yX8_in wsX8_in) := goodIn_app (goodIn_of _ (by decide +kernel)) ggX8_clamp_X8_in
set_option maxRecDepth 20000 in
theorem ggX8_clamp_X8_empties : GoodIn wsX8_clamp wsX8_empties := goodIn_r _ [13, 14, 15, 16, 17, 18, 19, 20, 21, 22, 23, 24, 25, 26, 27, 28, 29, 30, 31, 32, 33, 34, 35, 36, 37, 38, 39, 40, 41, 42, 43, 44, 45, 46, 47, 48, 49, 50, 51, 52, 53, 54, 55, 56, 57, 58, 59, 60, 61, 62, 63, 64, 65, 66, 67, 68, 69, 70, 71, 72, 73, 74, 75, 76, 77, 78, 79, 80, 81, 82, 83, 84] (by decide +kernel) (by decide +kernel)
set_option maxRecDepth 20000 in
theorem gX8_clamp_X8_empties : GoodIn wsX8_clamp (wsV RX8 145 RX8 yX8_empties wsX8_empties) := goodIn_app (goodIn_of _ (by decide +kernel)) ggX8_clamp_X8_empties
theorem dX8_clamp_0 : decode cX8_clamp 0 = .ok (.aload_n 0, 1) := by decide +kernel
theorem dX8_clamp_1 : decode cX8_clamp 1 = .ok (.iconst 0, 1) := by decide +kernel
theorem dX8_clamp_2 : decode cX8_clamp 2 = .ok (.putfield 1, 3) := by decide +kernel
theorem dX8_clamp_5 : decode cX8_clamp 5 = .ok (.iload_n 1, 1) := by decide +kernel
theorem dX8_clamp_6 : decode cX8_clamp 6 = .ok (.i2l, 1) := by decide +kernel
theorem dX8_clamp_7 : decode cX8_clamp 7 = .ok (.lconst 1, 1) := by decide +kernel
theorem dX8_clamp_8 : decode cX8_clamp 8 = .ok (.ldc2_w 175, 3) := by decide +kernel
theorem dX8_clamp_11 : decode cX8_clamp 11 = .ok (.invokestatic 148, 3) := by decide +kernel
theorem dX8_clamp_14 : decode cX8_clamp 14 = .ok (.ifCond .eq 15, 3) := by decide +kernel
theorem dX8_clamp_17 : decode cX8_clamp 17 = .ok (.iload_n 2, 1) := by decide +kernel
theorem dX8_clamp_18 : decode cX8_clamp 18 = .ok (.i2l, 1) := by decide +kernel
theorem dX8_clamp_19 : decode cX8_clamp 19 = .ok (.lconst 1, 1) := by decide +kernel
theorem dX8_clamp_20 : decode cX8_clamp 20 = .ok (.ldc2_w 175, 3) := by decide +kernel
theorem dX8_clamp_23 : decode cX8_clamp 23 = .ok (.invokestatic 148, 3) := by decide +kernel
theorem dX8_clamp_26 : decode cX8_clamp 26 = .ok (.ifCond .ne 5, 3) := by decide +kernel
theorem dX8_clamp_29 : decode cX8_clamp 29 = .ok (.iconst 0, 1) := by decide +kernel
theorem dX8_clamp_30 : decode cX8_clamp 30 = .ok (.ireturn, 1) := by decide +kernel
theorem dX8_clamp_31 : decode cX8_clamp 31 = .ok (.aload_n 0, 1) := by decide +kernel
theorem dX8_clamp_32 : decode cX8_clamp 32 = .ok (.iload_n 1, 1) := by decide +kernel
theorem dX8_clamp_33 : decode cX8_clamp 33 = .ok (.putfield 13, 3) := by decide +kernel
theorem dX8_clamp_36 : decode cX8_clamp 36 = .ok (.aload_n 0, 1) := by decide +kernel
theorem dX8_clamp_37 : decode cX8_clamp 37 = .ok (.iload_n 2, 1) := by decide +kernel
theorem dX8_clamp_38 : decode cX8_clamp 38 = .ok (.putfield 16, 3) := by decide +kernel
theorem dX8_clamp_41 : decode cX8_clamp 41 = .ok (.aload_n 0, 1) := by decide +kernel
theorem dX8_clamp_42 : decode cX8_clamp 42 = .ok (.iconst 0, 1) := by decide +kernel
theorem dX8_clamp_43 : decode cX8_clamp 43 = .ok (.putfield 177, 3) := by decide +kernel
theorem dX8_clamp_46 : decode cX8_clamp 46 = .ok (.aload_n 0, 1) := by decide +kernel
theorem dX8_clamp_47 : decode cX8_clamp 47 = .ok (.invokevirtual 145, 3) := by decide +kernel
theorem dX8_clamp_50 : decode cX8_clamp 50 = .ok (.iconst 1, 1) := by decide +kernel
theorem dX8_clamp_51 : decode cX8_clamp 51 = .ok (.ireturn, 1) := by decide +kernel
theorem dX8_damp_0 : decode cX8_damp 0 = .ok (.iload_n 0, 1) := by decide +kernel
theorem dX8_damp_1 : decode cX8_damp 1 = .ok (.iconst 2, 1) := by decide +kernel
theorem dX8_damp_2 : decode cX8_damp 2 = .ok (.if_icmp .ge 8, 3) := by decide +kernel
theorem dX8_damp_5 : decode cX8_damp 5 = .ok (.bipush 20, 2) := by decide +kernel
theorem dX8_damp_7 : decode cX8_damp 7 = .ok (.goto 5, 3) := by decide +kernel
theorem dX8_damp_10 : decode cX8_damp 10 = .ok (.bipush 60, 2) := by decide +kernel
theorem dX8_damp_12 : decode cX8_damp 12 = .ok (.ireturn, 1) := by decide +kernel
theorem dX8_yieldOf_0 : decode cX8_yieldOf 0 = .ok (.iload_n 0, 1) := by decide +kernel
theorem dX8_yieldOf_1 : decode cX8_yieldOf 1 = .ok (.iconst 1, 1) := by decide +kernel
theorem dX8_yieldOf_2 : decode cX8_yieldOf 2 = .ok (.if_icmp .ne 8, 3) := by decide +kernel
theorem dX8_yieldOf_5 : decode cX8_yieldOf 5 = .ok (.bipush 22, 2) := by decide +kernel
theorem dX8_yieldOf_7 : decode cX8_yieldOf 7 = .ok (.goto 5, 3) := by decide +kernel
theorem dX8_yieldOf_10 : decode cX8_yieldOf 10 = .ok (.bipush 25, 2) := by decide +kernel
theorem dX8_yieldOf_12 : decode cX8_yieldOf 12 = .ok (.ireturn, 1) := by decide +kernel
theorem dX8_rate_0 : decode cX8_rate 0 = .ok (.iload_n 0, 1) := by decide +kernel
theorem dX8_rate_1 : decode cX8_rate 1 = .ok (.iconst 1, 1) := by decide +kernel
theorem dX8_rate_2 : decode cX8_rate 2 = .ok (.if_icmp .ne 8, 3) := by decide +kernel
theorem dX8_rate_5 : decode cX8_rate 5 = .ok (.bipush 6, 2) := by decide +kernel
theorem dX8_rate_7 : decode cX8_rate 7 = .ok (.goto 13, 3) := by decide +kernel
theorem dX8_rate_10 : decode cX8_rate 10 = .ok (.iload_n 0, 1) := by decide +kernel
theorem dX8_rate_11 : decode cX8_rate 11 = .ok (.iconst 3, 1) := by decide +kernel
theorem dX8_rate_12 : decode cX8_rate 12 = .ok (.if_icmp .ne 7, 3) := by decide +kernel
theorem dX8_rate_15 : decode cX8_rate 15 = .ok (.iconst 2, 1) := by decide +kernel
theorem dX8_rate_16 : decode cX8_rate 16 = .ok (.goto 4, 3) := by decide +kernel
theorem dX8_rate_19 : decode cX8_rate 19 = .ok (.iconst 4, 1) := by decide +kernel
theorem dX8_rate_20 : decode cX8_rate 20 = .ok (.ireturn, 1) := by decide +kernel
set_option maxRecDepth 20000 in
theorem ggX8_lays_X8_share : GoodIn wsX8_lays wsX8_share := goodIn_r _ [10] (by decide +kernel) (by decide +kernel)
set_option maxRecDepth 20000 in
theorem gX8_lays_X8_share : GoodIn wsX8_lays (va_wsS RX8 180 yX8_share wsX8_share) := goodIn_app (goodIn_of _ (by decide +kernel)) ggX8_lays_X8_share
set_option maxRecDepth 20000 in
theorem ggX8_lays_X8_damp : GoodIn wsX8_lays wsX8_damp := goodIn_r _ [13] (by decide +kernel) (by decide +kernel)
set_option maxRecDepth 20000 in
theorem gX8_lays_X8_damp : GoodIn wsX8_lays (va_wsS RX8 183 yX8_damp wsX8_damp) := goodIn_app (goodIn_of _ (by decide +kernel)) ggX8_lays_X8_damp
theorem dX8_lays_0 : decode cX8_lays 0 = .ok (.aload_n 0, 1) := by decide +kernel
theorem dX8_lays_1 : decode cX8_lays 1 = .ok (.getfield 36, 3) := by decide +kernel
theorem dX8_lays_4 : decode cX8_lays 4 = .ok (.iload_n 1, 1) := by decide +kernel
theorem dX8_lays_5 : decode cX8_lays 5 = .ok (.iload_n 2, 1) := by decide +kernel
theorem dX8_lays_6 : decode cX8_lays 6 = .ok (.iastore, 1) := by decide +kernel
theorem dX8_lays_7 : decode cX8_lays 7 = .ok (.aload_n 0, 1) := by decide +kernel
theorem dX8_lays_8 : decode cX8_lays 8 = .ok (.getfield 39, 3) := by decide +kernel
theorem dX8_lays_11 : decode cX8_lays 11 = .ok (.iload_n 1, 1) := by decide +kernel
theorem dX8_lays_12 : decode cX8_lays 12 = .ok (.bipush 100, 2) := by decide +kernel
theorem dX8_lays_14 : decode cX8_lays 14 = .ok (.iload_n 1, 1) := by decide +kernel
theorem dX8_lays_15 : decode cX8_lays 15 = .ok (.invokestatic 180, 3) := by decide +kernel
theorem dX8_lays_18 : decode cX8_lays 18 = .ok (.imul, 1) := by decide +kernel
theorem dX8_lays_19 : decode cX8_lays 19 = .ok (.iastore, 1) := by decide +kernel
theorem dX8_lays_20 : decode cX8_lays 20 = .ok (.aload_n 0, 1) := by decide +kernel
theorem dX8_lays_21 : decode cX8_lays 21 = .ok (.getfield 19, 3) := by decide +kernel
theorem dX8_lays_24 : decode cX8_lays 24 = .ok (.iload_n 1, 1) := by decide +kernel
theorem dX8_lays_25 : decode cX8_lays 25 = .ok (.aload_n 0, 1) := by decide +kernel
theorem dX8_lays_26 : decode cX8_lays 26 = .ok (.getfield 39, 3) := by decide +kernel
theorem dX8_lays_29 : decode cX8_lays 29 = .ok (.iload_n 1, 1) := by decide +kernel
theorem dX8_lays_30 : decode cX8_lays 30 = .ok (.iaload, 1) := by decide +kernel
theorem dX8_lays_31 : decode cX8_lays 31 = .ok (.iastore, 1) := by decide +kernel
theorem dX8_lays_32 : decode cX8_lays 32 = .ok (.aload_n 0, 1) := by decide +kernel
theorem dX8_lays_33 : decode cX8_lays 33 = .ok (.getfield 26, 3) := by decide +kernel
theorem dX8_lays_36 : decode cX8_lays 36 = .ok (.iload_n 1, 1) := by decide +kernel
theorem dX8_lays_37 : decode cX8_lays 37 = .ok (.iload_n 2, 1) := by decide +kernel
theorem dX8_lays_38 : decode cX8_lays 38 = .ok (.invokestatic 183, 3) := by decide +kernel
theorem dX8_lays_41 : decode cX8_lays 41 = .ok (.iload_n 1, 1) := by decide +kernel
theorem dX8_lays_42 : decode cX8_lays 42 = .ok (.invokestatic 180, 3) := by decide +kernel
theorem dX8_lays_45 : decode cX8_lays 45 = .ok (.imul, 1) := by decide +kernel
theorem dX8_lays_46 : decode cX8_lays 46 = .ok (.iastore, 1) := by decide +kernel
theorem dX8_lays_47 : decode cX8_lays 47 = .ok (.aload_n 0, 1) := by decide +kernel
theorem dX8_lays_48 : decode cX8_lays 48 = .ok (.getfield 23, 3) := by decide +kernel
theorem dX8_lays_51 : decode cX8_lays 51 = .ok (.iload_n 1, 1) := by decide +kernel
theorem dX8_lays_52 : decode cX8_lays 52 = .ok (.iconst 0, 1) := by decide +kernel
theorem dX8_lays_53 : decode cX8_lays 53 = .ok (.iastore, 1) := by decide +kernel
theorem dX8_lays_54 : decode cX8_lays 54 = .ok (.aload_n 0, 1) := by decide +kernel
theorem dX8_lays_55 : decode cX8_lays 55 = .ok (.getfield 29, 3) := by decide +kernel
theorem dX8_lays_58 : decode cX8_lays 58 = .ok (.iload_n 1, 1) := by decide +kernel
theorem dX8_lays_59 : decode cX8_lays 59 = .ok (.iconst 0, 1) := by decide +kernel
theorem dX8_lays_60 : decode cX8_lays 60 = .ok (.iastore, 1) := by decide +kernel
theorem dX8_lays_61 : decode cX8_lays 61 = .ok (.aload_n 0, 1) := by decide +kernel
theorem dX8_lays_62 : decode cX8_lays 62 = .ok (.getfield 19, 3) := by decide +kernel
theorem dX8_lays_65 : decode cX8_lays 65 = .ok (.iload_n 1, 1) := by decide +kernel
theorem dX8_lays_66 : decode cX8_lays 66 = .ok (.iaload, 1) := by decide +kernel
theorem dX8_lays_67 : decode cX8_lays 67 = .ok (.ireturn, 1) := by decide +kernel
set_option maxRecDepth 20000 in
theorem ggX8_lay_X8_isCell : GoodIn wsX8_lay wsX8_isCell := goodIn_r _ [8, 9, 10, 11, 12, 7, 13, 30, 31, 32, 33, 34, 35, 36, 37, 38, 39, 40, 41, 42, 43, 44, 45, 46, 47, 48, 49, 50, 51, 52, 53, 54, 55, 56, 57, 58, 59, 60, 61, 62, 63, 64, 65, 66, 67, 68, 69, 70, 71, 72, 73, 74, 75, 76, 77, 78, 79, 80, 81, 82, 83, 84, 85] (by decide +kernel) (by decide +kernel)
set_option maxRecDepth 20000 in
theorem gX8_lay_X8_isCell : GoodIn wsX8_lay (wsV RX8 186 RX8 yX8_isCell wsX8_isCell) := goodIn_app (goodIn_of _ (by decide +kernel)) ggX8_lay_X8_isCell
set_option maxRecDepth 20000 in
theorem ggX8_lay_X8_in : GoodIn wsX8_lay wsX8_in := goodIn_r _ [13] (by decide +kernel) (by decide +kernel)
set_option maxRecDepth 20000 in
theorem gX8_lay_X8_in : GoodIn wsX8_lay (va_wsS RX8 148 yX8_in wsX8_in) := goodIn_app (goodIn_of _ (by decide +kernel)) ggX8_lay_X8_in
set_option maxRecDepth 20000 in
theorem ggX8_lay_X8_lays : GoodIn wsX8_lay wsX8_lays := goodIn_r _ [17, 18, 19, 20, 21, 22, 23, 24, 25, 7, 26, 27, 28, 29, 30, 31, 32, 33, 34, 35, 36, 37, 38, 39, 40, 41, 42, 43, 44, 45, 46, 47, 48, 49, 50, 51, 52, 53, 54, 55, 56, 57, 58, 59, 60, 61, 62, 63, 64, 65, 66, 67, 68, 69, 70, 71, 72, 73, 74, 75, 76, 77, 78, 79, 80, 81, 82, 83, 84, 85] (by decide +kernel) (by decide +kernel)
set_option maxRecDepth 20000 in
theorem gX8_lay_X8_lays : GoodIn wsX8_lay (wsV RX8 192 RX8 yX8_lays wsX8_lays) := goodIn_app (goodIn_of _ (by decide +kernel)) ggX8_lay_X8_lays
theorem dX8_lay_0 : decode cX8_lay 0 = .ok (.aload_n 0, 1) := by decide +kernel
theorem dX8_lay_1 : decode cX8_lay 1 = .ok (.iconst 0, 1) := by decide +kernel
theorem dX8_lay_2 : decode cX8_lay 2 = .ok (.putfield 1, 3) := by decide +kernel
theorem dX8_lay_5 : decode cX8_lay 5 = .ok (.aload_n 0, 1) := by decide +kernel
theorem dX8_lay_6 : decode cX8_lay 6 = .ok (.iload_n 1, 1) := by decide +kernel
theorem dX8_lay_7 : decode cX8_lay 7 = .ok (.iload_n 2, 1) := by decide +kernel
theorem dX8_lay_8 : decode cX8_lay 8 = .ok (.invokevirtual 186, 3) := by decide +kernel
theorem dX8_lay_11 : decode cX8_lay 11 = .ok (.ifCond .eq 22, 3) := by decide +kernel
theorem dX8_lay_14 : decode cX8_lay 14 = .ok (.iload_n 3, 1) := by decide +kernel
theorem dX8_lay_15 : decode cX8_lay 15 = .ok (.i2l, 1) := by decide +kernel
theorem dX8_lay_16 : decode cX8_lay 16 = .ok (.lconst 0, 1) := by decide +kernel
theorem dX8_lay_17 : decode cX8_lay 17 = .ok (.ldc2_w 190, 3) := by decide +kernel
theorem dX8_lay_20 : decode cX8_lay 20 = .ok (.invokestatic 148, 3) := by decide +kernel
theorem dX8_lay_23 : decode cX8_lay 23 = .ok (.ifCond .eq 10, 3) := by decide +kernel
theorem dX8_lay_26 : decode cX8_lay 26 = .ok (.aload_n 0, 1) := by decide +kernel
theorem dX8_lay_27 : decode cX8_lay 27 = .ok (.getfield 159, 3) := by decide +kernel
theorem dX8_lay_30 : decode cX8_lay 30 = .ok (.ifCond .eq 5, 3) := by decide +kernel
theorem dX8_lay_33 : decode cX8_lay 33 = .ok (.iconst (-1), 1) := by decide +kernel
theorem dX8_lay_34 : decode cX8_lay 34 = .ok (.ireturn, 1) := by decide +kernel
theorem dX8_lay_35 : decode cX8_lay 35 = .ok (.aload_n 0, 1) := by decide +kernel
theorem dX8_lay_36 : decode cX8_lay 36 = .ok (.iload_n 2, 1) := by decide +kernel
theorem dX8_lay_37 : decode cX8_lay 37 = .ok (.bipush 8, 2) := by decide +kernel
theorem dX8_lay_39 : decode cX8_lay 39 = .ok (.imul, 1) := by decide +kernel
theorem dX8_lay_40 : decode cX8_lay 40 = .ok (.iload_n 1, 1) := by decide +kernel
theorem dX8_lay_41 : decode cX8_lay 41 = .ok (.iadd, 1) := by decide +kernel
theorem dX8_lay_42 : decode cX8_lay 42 = .ok (.iload_n 3, 1) := by decide +kernel
theorem dX8_lay_43 : decode cX8_lay 43 = .ok (.invokevirtual 192, 3) := by decide +kernel
theorem dX8_lay_46 : decode cX8_lay 46 = .ok (.ireturn, 1) := by decide +kernel
set_option maxRecDepth 20000 in
theorem ggX8_layRow_X8_in : GoodIn wsX8_layRow wsX8_in := goodIn_r _ [9] (by decide +kernel) (by decide +kernel)
set_option maxRecDepth 20000 in
theorem gX8_layRow_X8_in : GoodIn wsX8_layRow (va_wsS RX8 148 yX8_in wsX8_in) := goodIn_app (goodIn_of _ (by decide +kernel)) ggX8_layRow_X8_in
set_option maxRecDepth 20000 in
theorem ggX8_layRow_X8_lays : GoodIn wsX8_layRow wsX8_lays := goodIn_r _ [13, 14, 15, 16, 17, 18, 19, 20, 21, 8, 22, 23, 24, 25, 26, 27, 28, 29, 30, 31, 32, 33, 34, 35, 36, 37, 38, 39, 40, 41, 42, 43, 44, 45, 46, 47, 48, 49, 50, 51, 52, 53, 54, 55, 56, 57, 58, 59, 60, 61, 62, 63, 64, 65, 66, 67, 68, 69, 70, 71, 72, 73, 74, 75, 76, 77, 78, 79, 80, 81] (by decide +kernel) (by decide +kernel)
set_option maxRecDepth 20000 in
theorem gX8_layRow_X8_lays : GoodIn wsX8_layRow (wsV RX8 192 RX8 yX8_lays wsX8_lays) := goodIn_app (goodIn_of _ (by decide +kernel)) ggX8_layRow_X8_lays
theorem dX8_layRow_0 : decode cX8_layRow 0 = .ok (.aload_n 0, 1) := by decide +kernel
theorem dX8_layRow_1 : decode cX8_layRow 1 = .ok (.iconst 0, 1) := by decide +kernel
theorem dX8_layRow_2 : decode cX8_layRow 2 = .ok (.putfield 1, 3) := by decide +kernel
theorem dX8_layRow_5 : decode cX8_layRow 5 = .ok (.iload_n 1, 1) := by decide +kernel
theorem dX8_layRow_6 : decode cX8_layRow 6 = .ok (.i2l, 1) := by decide +kernel
theorem dX8_layRow_7 : decode cX8_layRow 7 = .ok (.lconst 0, 1) := by decide +kernel
theorem dX8_layRow_8 : decode cX8_layRow 8 = .ok (.aload_n 0, 1) := by decide +kernel
theorem dX8_layRow_9 : decode cX8_layRow 9 = .ok (.getfield 16, 3) := by decide +kernel
theorem dX8_layRow_12 : decode cX8_layRow 12 = .ok (.iconst 1, 1) := by decide +kernel
theorem dX8_layRow_13 : decode cX8_layRow 13 = .ok (.isub, 1) := by decide +kernel
theorem dX8_layRow_14 : decode cX8_layRow 14 = .ok (.i2l, 1) := by decide +kernel
theorem dX8_layRow_15 : decode cX8_layRow 15 = .ok (.invokestatic 148, 3) := by decide +kernel
theorem dX8_layRow_18 : decode cX8_layRow 18 = .ok (.ifCond .eq 28, 3) := by decide +kernel
theorem dX8_layRow_21 : decode cX8_layRow 21 = .ok (.iload_n 2, 1) := by decide +kernel
theorem dX8_layRow_22 : decode cX8_layRow 22 = .ok (.i2l, 1) := by decide +kernel
theorem dX8_layRow_23 : decode cX8_layRow 23 = .ok (.lconst 0, 1) := by decide +kernel
theorem dX8_layRow_24 : decode cX8_layRow 24 = .ok (.ldc2_w 190, 3) := by decide +kernel
theorem dX8_layRow_27 : decode cX8_layRow 27 = .ok (.invokestatic 148, 3) := by decide +kernel
theorem dX8_layRow_30 : decode cX8_layRow 30 = .ok (.ifCond .eq 16, 3) := by decide +kernel
theorem dX8_layRow_33 : decode cX8_layRow 33 = .ok (.iload_n 3, 1) := by decide +kernel
theorem dX8_layRow_34 : decode cX8_layRow 34 = .ok (.bipush 20, 2) := by decide +kernel
theorem dX8_layRow_36 : decode cX8_layRow 36 = .ok (.if_icmp .gt 10, 3) := by decide +kernel
theorem dX8_layRow_39 : decode cX8_layRow 39 = .ok (.aload_n 0, 1) := by decide +kernel
theorem dX8_layRow_40 : decode cX8_layRow 40 = .ok (.getfield 159, 3) := by decide +kernel
theorem dX8_layRow_43 : decode cX8_layRow 43 = .ok (.ifCond .eq 5, 3) := by decide +kernel
theorem dX8_layRow_46 : decode cX8_layRow 46 = .ok (.iconst (-1), 1) := by decide +kernel
theorem dX8_layRow_47 : decode cX8_layRow 47 = .ok (.ireturn, 1) := by decide +kernel
theorem dX8_layRow_48 : decode cX8_layRow 48 = .ok (.iload_n 2, 1) := by decide +kernel
theorem dX8_layRow_49 : decode cX8_layRow 49 = .ok (.iconst 3, 1) := by decide +kernel
theorem dX8_layRow_50 : decode cX8_layRow 50 = .ok (.if_icmp .ne 5, 3) := by decide +kernel
theorem dX8_layRow_53 : decode cX8_layRow 53 = .ok (.iconst 0, 1) := by decide +kernel
theorem dX8_layRow_54 : decode cX8_layRow 54 = .ok (.ireturn, 1) := by decide +kernel
theorem dX8_layRow_55 : decode cX8_layRow 55 = .ok (.iload_n 3, 1) := by decide +kernel
theorem dX8_layRow_56 : decode cX8_layRow 56 = .ok (.ifCond .ge 6, 3) := by decide +kernel
theorem dX8_layRow_59 : decode cX8_layRow 59 = .ok (.bipush (-2), 2) := by decide +kernel
theorem dX8_layRow_61 : decode cX8_layRow 61 = .ok (.ireturn, 1) := by decide +kernel
theorem dX8_layRow_62 : decode cX8_layRow 62 = .ok (.iconst 0, 1) := by decide +kernel
theorem dX8_layRow_63 : decode cX8_layRow 63 = .ok (.istore 6, 2) := by decide +kernel
theorem dX8_layRow_65 : decode cX8_layRow 65 = .ok (.iload 6, 2) := by decide +kernel
theorem dX8_layRow_67 : decode cX8_layRow 67 = .ok (.iload_n 3, 1) := by decide +kernel
theorem dX8_layRow_68 : decode cX8_layRow 68 = .ok (.if_icmp .ge 84, 3) := by decide +kernel
theorem dX8_layRow_71 : decode cX8_layRow 71 = .ok (.iload 6, 2) := by decide +kernel
theorem dX8_layRow_73 : decode cX8_layRow 73 = .ok (.aload_n 0, 1) := by decide +kernel
theorem dX8_layRow_74 : decode cX8_layRow 74 = .ok (.getfield 13, 3) := by decide +kernel
theorem dX8_layRow_77 : decode cX8_layRow 77 = .ok (.if_icmp .ge 75, 3) := by decide +kernel
theorem dX8_layRow_80 : decode cX8_layRow 80 = .ok (.iload 4, 2) := by decide +kernel
theorem dX8_layRow_82 : decode cX8_layRow 82 = .ok (.iload 6, 2) := by decide +kernel
theorem dX8_layRow_84 : decode cX8_layRow 84 = .ok (.iload 5, 2) := by decide +kernel
theorem dX8_layRow_86 : decode cX8_layRow 86 = .ok (.imul, 1) := by decide +kernel
theorem dX8_layRow_87 : decode cX8_layRow 87 = .ok (.iadd, 1) := by decide +kernel
theorem dX8_layRow_88 : decode cX8_layRow 88 = .ok (.istore 7, 2) := by decide +kernel
theorem dX8_layRow_90 : decode cX8_layRow 90 = .ok (.iload_n 2, 1) := by decide +kernel
theorem dX8_layRow_91 : decode cX8_layRow 91 = .ok (.ifCond .ne 9, 3) := by decide +kernel
theorem dX8_layRow_94 : decode cX8_layRow 94 = .ok (.iload 7, 2) := by decide +kernel
theorem dX8_layRow_96 : decode cX8_layRow 96 = .ok (.i2b, 1) := by decide +kernel
theorem dX8_layRow_97 : decode cX8_layRow 97 = .ok (.goto 16, 3) := by decide +kernel
theorem dX8_layRow_100 : decode cX8_layRow 100 = .ok (.iload_n 2, 1) := by decide +kernel
theorem dX8_layRow_101 : decode cX8_layRow 101 = .ok (.iconst 1, 1) := by decide +kernel
theorem dX8_layRow_102 : decode cX8_layRow 102 = .ok (.if_icmp .ne 9, 3) := by decide +kernel
theorem dX8_layRow_105 : decode cX8_layRow 105 = .ok (.iload 7, 2) := by decide +kernel
theorem dX8_layRow_107 : decode cX8_layRow 107 = .ok (.i2s, 1) := by decide +kernel
theorem dX8_layRow_108 : decode cX8_layRow 108 = .ok (.goto 5, 3) := by decide +kernel
theorem dX8_layRow_111 : decode cX8_layRow 111 = .ok (.iload 7, 2) := by decide +kernel
theorem dX8_layRow_113 : decode cX8_layRow 113 = .ok (.istore 7, 2) := by decide +kernel
theorem dX8_layRow_115 : decode cX8_layRow 115 = .ok (.iload 7, 2) := by decide +kernel
theorem dX8_layRow_117 : decode cX8_layRow 117 = .ok (.i2l, 1) := by decide +kernel
theorem dX8_layRow_118 : decode cX8_layRow 118 = .ok (.lconst 0, 1) := by decide +kernel
theorem dX8_layRow_119 : decode cX8_layRow 119 = .ok (.ldc2_w 190, 3) := by decide +kernel
theorem dX8_layRow_122 : decode cX8_layRow 122 = .ok (.invokestatic 148, 3) := by decide +kernel
theorem dX8_layRow_125 : decode cX8_layRow 125 = .ok (.ifCond .ne 6, 3) := by decide +kernel
theorem dX8_layRow_128 : decode cX8_layRow 128 = .ok (.iload 6, 2) := by decide +kernel
theorem dX8_layRow_130 : decode cX8_layRow 130 = .ok (.ireturn, 1) := by decide +kernel
theorem dX8_layRow_131 : decode cX8_layRow 131 = .ok (.aload_n 0, 1) := by decide +kernel
theorem dX8_layRow_132 : decode cX8_layRow 132 = .ok (.iload_n 1, 1) := by decide +kernel
theorem dX8_layRow_133 : decode cX8_layRow 133 = .ok (.bipush 8, 2) := by decide +kernel
theorem dX8_layRow_135 : decode cX8_layRow 135 = .ok (.imul, 1) := by decide +kernel
theorem dX8_layRow_136 : decode cX8_layRow 136 = .ok (.iload 6, 2) := by decide +kernel
theorem dX8_layRow_138 : decode cX8_layRow 138 = .ok (.iadd, 1) := by decide +kernel
theorem dX8_layRow_139 : decode cX8_layRow 139 = .ok (.iload 7, 2) := by decide +kernel
theorem dX8_layRow_141 : decode cX8_layRow 141 = .ok (.invokevirtual 192, 3) := by decide +kernel
theorem dX8_layRow_144 : decode cX8_layRow 144 = .ok (.istore 8, 2) := by decide +kernel
theorem dX8_layRow_146 : decode cX8_layRow 146 = .ok (.iinc 6 1, 3) := by decide +kernel
theorem dX8_layRow_149 : decode cX8_layRow 149 = .ok (.goto (-84), 3) := by decide +kernel
theorem dX8_layRow_152 : decode cX8_layRow 152 = .ok (.iload 6, 2) := by decide +kernel
theorem dX8_layRow_154 : decode cX8_layRow 154 = .ok (.ireturn, 1) := by decide +kernel
set_option maxRecDepth 20000 in
theorem ggX8_hole_X8_isCell : GoodIn wsX8_hole wsX8_isCell := goodIn_r _ [10, 11, 12, 13, 14, 9, 15, 28, 29, 30, 31, 32, 33, 34, 35, 36, 37, 38, 39, 40, 41, 42, 43, 44, 45, 46, 47, 48, 49, 50, 51, 52, 53, 54, 55, 56, 57, 58, 59, 60, 61, 62, 63, 64, 65, 66, 67, 68, 69, 70, 71, 72, 73, 74, 75, 76, 77, 78, 79, 80, 81, 82, 83] (by decide +kernel) (by decide +kernel)
set_option maxRecDepth 20000 in
theorem gX8_hole_X8_isCell : GoodIn wsX8_hole (wsV RX8 186 RX8 yX8_isCell wsX8_isCell) := goodIn_app (goodIn_of _ (by decide +kernel)) ggX8_hole_X8_isCell
set_option maxRecDepth 20000 in
theorem ggX8_hole_X8_isOutside : GoodIn wsX8_hole wsX8_isOutside := goodIn_r _ [19, 11, 12, 20, 21, 22, 9, 23, 24, 25, 26, 27, 28, 29, 30, 31, 32, 33, 34, 35, 36, 37, 38, 39, 40, 41, 42, 43, 44, 45, 46, 47, 48, 49, 50, 51, 52, 53, 54, 55, 56, 57, 58, 59, 60, 61, 62, 63, 64, 65, 66, 67, 68, 69, 70, 71, 72, 73, 74, 75, 76, 77, 78, 79, 80, 81, 82, 83] (by decide +kernel) (by decide +kernel)
set_option maxRecDepth 20000 in
theorem gX8_hole_X8_isOutside : GoodIn wsX8_hole (wsV RX8 196 RX8 yX8_isOutside wsX8_isOutside) := goodIn_app (goodIn_of _ (by decide +kernel)) ggX8_hole_X8_isOutside
theorem dX8_hole_0 : decode cX8_hole 0 = .ok (.aload_n 0, 1) := by decide +kernel
theorem dX8_hole_1 : decode cX8_hole 1 = .ok (.iconst 0, 1) := by decide +kernel
theorem dX8_hole_2 : decode cX8_hole 2 = .ok (.putfield 1, 3) := by decide +kernel
theorem dX8_hole_5 : decode cX8_hole 5 = .ok (.aload_n 0, 1) := by decide +kernel
theorem dX8_hole_6 : decode cX8_hole 6 = .ok (.iload_n 1, 1) := by decide +kernel
theorem dX8_hole_7 : decode cX8_hole 7 = .ok (.iload_n 2, 1) := by decide +kernel
theorem dX8_hole_8 : decode cX8_hole 8 = .ok (.invokevirtual 186, 3) := by decide +kernel
theorem dX8_hole_11 : decode cX8_hole 11 = .ok (.ifCond .eq 32, 3) := by decide +kernel
theorem dX8_hole_14 : decode cX8_hole 14 = .ok (.aload_n 0, 1) := by decide +kernel
theorem dX8_hole_15 : decode cX8_hole 15 = .ok (.iload_n 2, 1) := by decide +kernel
theorem dX8_hole_16 : decode cX8_hole 16 = .ok (.bipush 8, 2) := by decide +kernel
theorem dX8_hole_18 : decode cX8_hole 18 = .ok (.imul, 1) := by decide +kernel
theorem dX8_hole_19 : decode cX8_hole 19 = .ok (.iload_n 1, 1) := by decide +kernel
theorem dX8_hole_20 : decode cX8_hole 20 = .ok (.iadd, 1) := by decide +kernel
theorem dX8_hole_21 : decode cX8_hole 21 = .ok (.invokevirtual 196, 3) := by decide +kernel
theorem dX8_hole_24 : decode cX8_hole 24 = .ok (.ifCond .eq 19, 3) := by decide +kernel
theorem dX8_hole_27 : decode cX8_hole 27 = .ok (.aload_n 0, 1) := by decide +kernel
theorem dX8_hole_28 : decode cX8_hole 28 = .ok (.getfield 177, 3) := by decide +kernel
theorem dX8_hole_31 : decode cX8_hole 31 = .ok (.bipush 12, 2) := by decide +kernel
theorem dX8_hole_33 : decode cX8_hole 33 = .ok (.if_icmp .eq 10, 3) := by decide +kernel
theorem dX8_hole_36 : decode cX8_hole 36 = .ok (.aload_n 0, 1) := by decide +kernel
theorem dX8_hole_37 : decode cX8_hole 37 = .ok (.getfield 159, 3) := by decide +kernel
theorem dX8_hole_40 : decode cX8_hole 40 = .ok (.ifCond .eq 5, 3) := by decide +kernel
theorem dX8_hole_43 : decode cX8_hole 43 = .ok (.iconst (-1), 1) := by decide +kernel
theorem dX8_hole_44 : decode cX8_hole 44 = .ok (.ireturn, 1) := by decide +kernel
theorem dX8_hole_45 : decode cX8_hole 45 = .ok (.aload_n 0, 1) := by decide +kernel
theorem dX8_hole_46 : decode cX8_hole 46 = .ok (.getfield 51, 3) := by decide +kernel
theorem dX8_hole_49 : decode cX8_hole 49 = .ok (.aload_n 0, 1) := by decide +kernel
theorem dX8_hole_50 : decode cX8_hole 50 = .ok (.getfield 177, 3) := by decide +kernel
theorem dX8_hole_53 : decode cX8_hole 53 = .ok (.iload_n 2, 1) := by decide +kernel
theorem dX8_hole_54 : decode cX8_hole 54 = .ok (.bipush 8, 2) := by decide +kernel
theorem dX8_hole_56 : decode cX8_hole 56 = .ok (.imul, 1) := by decide +kernel
theorem dX8_hole_57 : decode cX8_hole 57 = .ok (.iload_n 1, 1) := by decide +kernel
theorem dX8_hole_58 : decode cX8_hole 58 = .ok (.iadd, 1) := by decide +kernel
theorem dX8_hole_59 : decode cX8_hole 59 = .ok (.iastore, 1) := by decide +kernel
theorem dX8_hole_60 : decode cX8_hole 60 = .ok (.aload_n 0, 1) := by decide +kernel
theorem dX8_hole_61 : decode cX8_hole 61 = .ok (.getfield 54, 3) := by decide +kernel
theorem dX8_hole_64 : decode cX8_hole 64 = .ok (.aload_n 0, 1) := by decide +kernel
theorem dX8_hole_65 : decode cX8_hole 65 = .ok (.getfield 177, 3) := by decide +kernel
theorem dX8_hole_68 : decode cX8_hole 68 = .ok (.iconst 0, 1) := by decide +kernel
theorem dX8_hole_69 : decode cX8_hole 69 = .ok (.bastore, 1) := by decide +kernel
theorem dX8_hole_70 : decode cX8_hole 70 = .ok (.aload_n 0, 1) := by decide +kernel
theorem dX8_hole_71 : decode cX8_hole 71 = .ok (.dup, 1) := by decide +kernel
theorem dX8_hole_72 : decode cX8_hole 72 = .ok (.getfield 177, 3) := by decide +kernel
theorem dX8_hole_75 : decode cX8_hole 75 = .ok (.iconst 1, 1) := by decide +kernel
theorem dX8_hole_76 : decode cX8_hole 76 = .ok (.iadd, 1) := by decide +kernel
theorem dX8_hole_77 : decode cX8_hole 77 = .ok (.putfield 177, 3) := by decide +kernel
theorem dX8_hole_80 : decode cX8_hole 80 = .ok (.aload_n 0, 1) := by decide +kernel
theorem dX8_hole_81 : decode cX8_hole 81 = .ok (.getfield 177, 3) := by decide +kernel
theorem dX8_hole_84 : decode cX8_hole 84 = .ok (.iconst 1, 1) := by decide +kernel
theorem dX8_hole_85 : decode cX8_hole 85 = .ok (.isub, 1) := by decide +kernel
theorem dX8_hole_86 : decode cX8_hole 86 = .ok (.ireturn, 1) := by decide +kernel
theorem dX8_lights_0 : decode cX8_lights 0 = .ok (.aload_n 0, 1) := by decide +kernel
theorem dX8_lights_1 : decode cX8_lights 1 = .ok (.iconst 1, 1) := by decide +kernel
theorem dX8_lights_2 : decode cX8_lights 2 = .ok (.putfield 159, 3) := by decide +kernel
theorem dX8_lights_5 : decode cX8_lights 5 = .ok (.aload_n 0, 1) := by decide +kernel
theorem dX8_lights_6 : decode cX8_lights 6 = .ok (.iconst 0, 1) := by decide +kernel
theorem dX8_lights_7 : decode cX8_lights 7 = .ok (.putfield 163, 3) := by decide +kernel
theorem dX8_lights_10 : decode cX8_lights 10 = .ok (.aload_n 0, 1) := by decide +kernel
theorem dX8_lights_11 : decode cX8_lights 11 = .ok (.iconst 0, 1) := by decide +kernel
theorem dX8_lights_12 : decode cX8_lights 12 = .ok (.putfield 166, 3) := by decide +kernel
theorem dX8_lights_15 : decode cX8_lights 15 = .ok (.aload_n 0, 1) := by decide +kernel
theorem dX8_lights_16 : decode cX8_lights 16 = .ok (.iconst 0, 1) := by decide +kernel
theorem dX8_lights_17 : decode cX8_lights 17 = .ok (.putfield 169, 3) := by decide +kernel
theorem dX8_lights_20 : decode cX8_lights 20 = .ok (.aload_n 0, 1) := by decide +kernel
theorem dX8_lights_21 : decode cX8_lights 21 = .ok (.getfield 32, 3) := by decide +kernel
theorem dX8_lights_24 : decode cX8_lights 24 = .ok (.iconst 0, 1) := by decide +kernel
theorem dX8_lights_25 : decode cX8_lights 25 = .ok (.iconst 1, 1) := by decide +kernel
theorem dX8_lights_26 : decode cX8_lights 26 = .ok (.bastore, 1) := by decide +kernel
theorem dX8_lights_27 : decode cX8_lights 27 = .ok (.aload_n 0, 1) := by decide +kernel
theorem dX8_lights_28 : decode cX8_lights 28 = .ok (.getfield 29, 3) := by decide +kernel
theorem dX8_lights_31 : decode cX8_lights 31 = .ok (.iconst 0, 1) := by decide +kernel
theorem dX8_lights_32 : decode cX8_lights 32 = .ok (.sipush 500, 3) := by decide +kernel
theorem dX8_lights_35 : decode cX8_lights 35 = .ok (.iastore, 1) := by decide +kernel
theorem dX8_lights_36 : decode cX8_lights 36 = .ok (.return_, 1) := by decide +kernel
set_option maxRecDepth 20000 in
theorem ggX8_light_X8_lights : GoodIn wsX8_light wsX8_lights := goodIn_r _ [19, 2, 20, 21, 22, 23, 24, 25, 26, 27, 28, 29, 30, 31, 32, 33, 34, 35, 36, 37, 38, 39, 40, 41, 42, 43, 44, 45, 46, 47, 48, 49, 50, 51, 52, 53, 54, 55, 56, 57, 58, 59, 60, 61, 62, 63, 64, 65, 66, 67, 68, 69, 70, 71, 72, 73, 74, 75, 76, 77, 78, 79, 80] (by decide +kernel) (by decide +kernel)
set_option maxRecDepth 20000 in
theorem gX8_light_X8_lights : GoodIn wsX8_light (wsV RX8 203 RX8 yX8_lights wsX8_lights) := goodIn_app (goodIn_of _ (by decide +kernel)) ggX8_light_X8_lights
theorem dX8_light_0 : decode cX8_light 0 = .ok (.aload_n 0, 1) := by decide +kernel
theorem dX8_light_1 : decode cX8_light 1 = .ok (.iconst 0, 1) := by decide +kernel
theorem dX8_light_2 : decode cX8_light 2 = .ok (.putfield 1, 3) := by decide +kernel
theorem dX8_light_5 : decode cX8_light 5 = .ok (.aload_n 0, 1) := by decide +kernel
theorem dX8_light_6 : decode cX8_light 6 = .ok (.getfield 159, 3) := by decide +kernel
theorem dX8_light_9 : decode cX8_light 9 = .ok (.ifCond .ne 12, 3) := by decide +kernel
theorem dX8_light_12 : decode cX8_light 12 = .ok (.aload_n 0, 1) := by decide +kernel
theorem dX8_light_13 : decode cX8_light 13 = .ok (.getfield 19, 3) := by decide +kernel
theorem dX8_light_16 : decode cX8_light 16 = .ok (.iconst 0, 1) := by decide +kernel
theorem dX8_light_17 : decode cX8_light 17 = .ok (.iaload, 1) := by decide +kernel
theorem dX8_light_18 : decode cX8_light 18 = .ok (.ifCond .ne 5, 3) := by decide +kernel
theorem dX8_light_21 : decode cX8_light 21 = .ok (.iconst 0, 1) := by decide +kernel
theorem dX8_light_22 : decode cX8_light 22 = .ok (.ireturn, 1) := by decide +kernel
theorem dX8_light_23 : decode cX8_light 23 = .ok (.iconst 0, 1) := by decide +kernel
theorem dX8_light_24 : decode cX8_light 24 = .ok (.istore_n 1, 1) := by decide +kernel
theorem dX8_light_25 : decode cX8_light 25 = .ok (.iload_n 1, 1) := by decide +kernel
theorem dX8_light_26 : decode cX8_light 26 = .ok (.bipush 64, 2) := by decide +kernel
theorem dX8_light_28 : decode cX8_light 28 = .ok (.if_icmp .ge 45, 3) := by decide +kernel
theorem dX8_light_31 : decode cX8_light 31 = .ok (.aload_n 0, 1) := by decide +kernel
theorem dX8_light_32 : decode cX8_light 32 = .ok (.getfield 57, 3) := by decide +kernel
theorem dX8_light_35 : decode cX8_light 35 = .ok (.iload_n 1, 1) := by decide +kernel
theorem dX8_light_36 : decode cX8_light 36 = .ok (.aload_n 0, 1) := by decide +kernel
theorem dX8_light_37 : decode cX8_light 37 = .ok (.getfield 19, 3) := by decide +kernel
theorem dX8_light_40 : decode cX8_light 40 = .ok (.iload_n 1, 1) := by decide +kernel
theorem dX8_light_41 : decode cX8_light 41 = .ok (.iaload, 1) := by decide +kernel
theorem dX8_light_42 : decode cX8_light 42 = .ok (.iastore, 1) := by decide +kernel
theorem dX8_light_43 : decode cX8_light 43 = .ok (.aload_n 0, 1) := by decide +kernel
theorem dX8_light_44 : decode cX8_light 44 = .ok (.getfield 60, 3) := by decide +kernel
theorem dX8_light_47 : decode cX8_light 47 = .ok (.iload_n 1, 1) := by decide +kernel
theorem dX8_light_48 : decode cX8_light 48 = .ok (.aload_n 0, 1) := by decide +kernel
theorem dX8_light_49 : decode cX8_light 49 = .ok (.getfield 26, 3) := by decide +kernel
theorem dX8_light_52 : decode cX8_light 52 = .ok (.iload_n 1, 1) := by decide +kernel
theorem dX8_light_53 : decode cX8_light 53 = .ok (.iaload, 1) := by decide +kernel
theorem dX8_light_54 : decode cX8_light 54 = .ok (.iastore, 1) := by decide +kernel
theorem dX8_light_55 : decode cX8_light 55 = .ok (.aload_n 0, 1) := by decide +kernel
theorem dX8_light_56 : decode cX8_light 56 = .ok (.getfield 63, 3) := by decide +kernel
theorem dX8_light_59 : decode cX8_light 59 = .ok (.iload_n 1, 1) := by decide +kernel
theorem dX8_light_60 : decode cX8_light 60 = .ok (.aload_n 0, 1) := by decide +kernel
theorem dX8_light_61 : decode cX8_light 61 = .ok (.getfield 42, 3) := by decide +kernel
theorem dX8_light_64 : decode cX8_light 64 = .ok (.iload_n 1, 1) := by decide +kernel
theorem dX8_light_65 : decode cX8_light 65 = .ok (.iaload, 1) := by decide +kernel
theorem dX8_light_66 : decode cX8_light 66 = .ok (.iastore, 1) := by decide +kernel
theorem dX8_light_67 : decode cX8_light 67 = .ok (.iinc 1 1, 3) := by decide +kernel
theorem dX8_light_70 : decode cX8_light 70 = .ok (.goto (-45), 3) := by decide +kernel
theorem dX8_light_73 : decode cX8_light 73 = .ok (.iconst 0, 1) := by decide +kernel
theorem dX8_light_74 : decode cX8_light 74 = .ok (.istore_n 1, 1) := by decide +kernel
theorem dX8_light_75 : decode cX8_light 75 = .ok (.iload_n 1, 1) := by decide +kernel
theorem dX8_light_76 : decode cX8_light 76 = .ok (.aload_n 0, 1) := by decide +kernel
theorem dX8_light_77 : decode cX8_light 77 = .ok (.getfield 177, 3) := by decide +kernel
theorem dX8_light_80 : decode cX8_light 80 = .ok (.if_icmp .ge 21, 3) := by decide +kernel
theorem dX8_light_83 : decode cX8_light 83 = .ok (.aload_n 0, 1) := by decide +kernel
theorem dX8_light_84 : decode cX8_light 84 = .ok (.getfield 66, 3) := by decide +kernel
theorem dX8_light_87 : decode cX8_light 87 = .ok (.iload_n 1, 1) := by decide +kernel
theorem dX8_light_88 : decode cX8_light 88 = .ok (.aload_n 0, 1) := by decide +kernel
theorem dX8_light_89 : decode cX8_light 89 = .ok (.getfield 54, 3) := by decide +kernel
theorem dX8_light_92 : decode cX8_light 92 = .ok (.iload_n 1, 1) := by decide +kernel
theorem dX8_light_93 : decode cX8_light 93 = .ok (.baload, 1) := by decide +kernel
theorem dX8_light_94 : decode cX8_light 94 = .ok (.bastore, 1) := by decide +kernel
theorem dX8_light_95 : decode cX8_light 95 = .ok (.iinc 1 1, 3) := by decide +kernel
theorem dX8_light_98 : decode cX8_light 98 = .ok (.goto (-23), 3) := by decide +kernel
theorem dX8_light_101 : decode cX8_light 101 = .ok (.aload_n 0, 1) := by decide +kernel
theorem dX8_light_102 : decode cX8_light 102 = .ok (.iconst 0, 1) := by decide +kernel
theorem dX8_light_103 : decode cX8_light 103 = .ok (.putfield 172, 3) := by decide +kernel
theorem dX8_light_106 : decode cX8_light 106 = .ok (.iconst 0, 1) := by decide +kernel
theorem dX8_light_107 : decode cX8_light 107 = .ok (.istore_n 1, 1) := by decide +kernel
theorem dX8_light_108 : decode cX8_light 108 = .ok (.iload_n 1, 1) := by decide +kernel
theorem dX8_light_109 : decode cX8_light 109 = .ok (.aload_n 0, 1) := by decide +kernel
theorem dX8_light_110 : decode cX8_light 110 = .ok (.getfield 200, 3) := by decide +kernel
theorem dX8_light_113 : decode cX8_light 113 = .ok (.if_icmp .ge 16, 3) := by decide +kernel
theorem dX8_light_116 : decode cX8_light 116 = .ok (.aload_n 0, 1) := by decide +kernel
theorem dX8_light_117 : decode cX8_light 117 = .ok (.getfield 115, 3) := by decide +kernel
theorem dX8_light_120 : decode cX8_light 120 = .ok (.iload_n 1, 1) := by decide +kernel
theorem dX8_light_121 : decode cX8_light 121 = .ok (.iconst 0, 1) := by decide +kernel
theorem dX8_light_122 : decode cX8_light 122 = .ok (.iastore, 1) := by decide +kernel
theorem dX8_light_123 : decode cX8_light 123 = .ok (.iinc 1 1, 3) := by decide +kernel
theorem dX8_light_126 : decode cX8_light 126 = .ok (.goto (-18), 3) := by decide +kernel
theorem dX8_light_129 : decode cX8_light 129 = .ok (.aload_n 0, 1) := by decide +kernel
theorem dX8_light_130 : decode cX8_light 130 = .ok (.invokevirtual 203, 3) := by decide +kernel
theorem dX8_light_133 : decode cX8_light 133 = .ok (.iconst 1, 1) := by decide +kernel
theorem dX8_light_134 : decode cX8_light 134 = .ok (.ireturn, 1) := by decide +kernel
theorem dX8_does_0 : decode cX8_does 0 = .ok (.iload_n 1, 1) := by decide +kernel
theorem dX8_does_1 : decode cX8_does 1 = .ok (.bipush 12, 2) := by decide +kernel
theorem dX8_does_3 : decode cX8_does 3 = .ok (.if_icmp .ge 22, 3) := by decide +kernel
theorem dX8_does_6 : decode cX8_does 6 = .ok (.aload_n 0, 1) := by decide +kernel
theorem dX8_does_7 : decode cX8_does 7 = .ok (.getfield 54, 3) := by decide +kernel
theorem dX8_does_10 : decode cX8_does 10 = .ok (.iload_n 1, 1) := by decide +kernel
theorem dX8_does_11 : decode cX8_does 11 = .ok (.iload_n 2, 1) := by decide +kernel
theorem dX8_does_12 : decode cX8_does 12 = .ok (.iconst 1, 1) := by decide +kernel
theorem dX8_does_13 : decode cX8_does 13 = .ok (.if_icmp .ne 7, 3) := by decide +kernel
theorem dX8_does_16 : decode cX8_does 16 = .ok (.iconst 1, 1) := by decide +kernel
theorem dX8_does_17 : decode cX8_does 17 = .ok (.goto 4, 3) := by decide +kernel
theorem dX8_does_20 : decode cX8_does 20 = .ok (.iconst 0, 1) := by decide +kernel
theorem dX8_does_21 : decode cX8_does 21 = .ok (.bastore, 1) := by decide +kernel
theorem dX8_does_22 : decode cX8_does 22 = .ok (.goto 13, 3) := by decide +kernel
theorem dX8_does_25 : decode cX8_does 25 = .ok (.aload_n 0, 1) := by decide +kernel
theorem dX8_does_26 : decode cX8_does 26 = .ok (.getfield 42, 3) := by decide +kernel
theorem dX8_does_29 : decode cX8_does 29 = .ok (.iload_n 1, 1) := by decide +kernel
theorem dX8_does_30 : decode cX8_does 30 = .ok (.bipush 12, 2) := by decide +kernel
theorem dX8_does_32 : decode cX8_does 32 = .ok (.isub, 1) := by decide +kernel
theorem dX8_does_33 : decode cX8_does 33 = .ok (.iload_n 2, 1) := by decide +kernel
theorem dX8_does_34 : decode cX8_does 34 = .ok (.iastore, 1) := by decide +kernel
theorem dX8_does_35 : decode cX8_does 35 = .ok (.return_, 1) := by decide +kernel
set_option maxRecDepth 20000 in
theorem ggX8_byHand_X8_does : GoodIn wsX8_byHand wsX8_does := goodIn_r _ [11, 12, 13, 14, 15, 16, 17, 18, 19, 20, 21, 22, 23, 24, 25, 26, 27, 28, 29, 30, 31, 32, 33, 34, 35, 36, 37, 38, 39, 40, 41, 42, 43, 44, 45, 46, 47, 48, 49, 50, 51, 52, 53, 54, 55, 56, 57, 58, 59, 60, 61, 62, 63, 64, 65, 66, 67, 68, 69] (by decide +kernel) (by decide +kernel)
set_option maxRecDepth 20000 in
theorem gX8_byHand_X8_does : GoodIn wsX8_byHand (wsV RX8 206 RX8 yX8_does wsX8_does) := goodIn_app (goodIn_of _ (by decide +kernel)) ggX8_byHand_X8_does
theorem dX8_byHand_0 : decode cX8_byHand 0 = .ok (.aload_n 0, 1) := by decide +kernel
theorem dX8_byHand_1 : decode cX8_byHand 1 = .ok (.getfield 159, 3) := by decide +kernel
theorem dX8_byHand_4 : decode cX8_byHand 4 = .ok (.ifCond .eq 14, 3) := by decide +kernel
theorem dX8_byHand_7 : decode cX8_byHand 7 = .ok (.aload_n 0, 1) := by decide +kernel
theorem dX8_byHand_8 : decode cX8_byHand 8 = .ok (.getfield 172, 3) := by decide +kernel
theorem dX8_byHand_11 : decode cX8_byHand 11 = .ok (.bipush 100, 2) := by decide +kernel
theorem dX8_byHand_13 : decode cX8_byHand 13 = .ok (.if_icmp .ne 5, 3) := by decide +kernel
theorem dX8_byHand_16 : decode cX8_byHand 16 = .ok (.iconst 0, 1) := by decide +kernel
theorem dX8_byHand_17 : decode cX8_byHand 17 = .ok (.ireturn, 1) := by decide +kernel
theorem dX8_byHand_18 : decode cX8_byHand 18 = .ok (.aload_n 0, 1) := by decide +kernel
theorem dX8_byHand_19 : decode cX8_byHand 19 = .ok (.getfield 159, 3) := by decide +kernel
theorem dX8_byHand_22 : decode cX8_byHand 22 = .ok (.ifCond .eq 46, 3) := by decide +kernel
theorem dX8_byHand_25 : decode cX8_byHand 25 = .ok (.aload_n 0, 1) := by decide +kernel
theorem dX8_byHand_26 : decode cX8_byHand 26 = .ok (.getfield 73, 3) := by decide +kernel
theorem dX8_byHand_29 : decode cX8_byHand 29 = .ok (.aload_n 0, 1) := by decide +kernel
theorem dX8_byHand_30 : decode cX8_byHand 30 = .ok (.getfield 172, 3) := by decide +kernel
theorem dX8_byHand_33 : decode cX8_byHand 33 = .ok (.iload_n 1, 1) := by decide +kernel
theorem dX8_byHand_34 : decode cX8_byHand 34 = .ok (.iastore, 1) := by decide +kernel
theorem dX8_byHand_35 : decode cX8_byHand 35 = .ok (.aload_n 0, 1) := by decide +kernel
theorem dX8_byHand_36 : decode cX8_byHand 36 = .ok (.getfield 76, 3) := by decide +kernel
theorem dX8_byHand_39 : decode cX8_byHand 39 = .ok (.aload_n 0, 1) := by decide +kernel
theorem dX8_byHand_40 : decode cX8_byHand 40 = .ok (.getfield 172, 3) := by decide +kernel
theorem dX8_byHand_43 : decode cX8_byHand 43 = .ok (.iload_n 2, 1) := by decide +kernel
theorem dX8_byHand_44 : decode cX8_byHand 44 = .ok (.iastore, 1) := by decide +kernel
theorem dX8_byHand_45 : decode cX8_byHand 45 = .ok (.aload_n 0, 1) := by decide +kernel
theorem dX8_byHand_46 : decode cX8_byHand 46 = .ok (.getfield 79, 3) := by decide +kernel
theorem dX8_byHand_49 : decode cX8_byHand 49 = .ok (.aload_n 0, 1) := by decide +kernel
theorem dX8_byHand_50 : decode cX8_byHand 50 = .ok (.getfield 172, 3) := by decide +kernel
theorem dX8_byHand_53 : decode cX8_byHand 53 = .ok (.aload_n 0, 1) := by decide +kernel
theorem dX8_byHand_54 : decode cX8_byHand 54 = .ok (.getfield 163, 3) := by decide +kernel
theorem dX8_byHand_57 : decode cX8_byHand 57 = .ok (.iastore, 1) := by decide +kernel
theorem dX8_byHand_58 : decode cX8_byHand 58 = .ok (.aload_n 0, 1) := by decide +kernel
theorem dX8_byHand_59 : decode cX8_byHand 59 = .ok (.dup, 1) := by decide +kernel
theorem dX8_byHand_60 : decode cX8_byHand 60 = .ok (.getfield 172, 3) := by decide +kernel
theorem dX8_byHand_63 : decode cX8_byHand 63 = .ok (.iconst 1, 1) := by decide +kernel
theorem dX8_byHand_64 : decode cX8_byHand 64 = .ok (.iadd, 1) := by decide +kernel
theorem dX8_byHand_65 : decode cX8_byHand 65 = .ok (.putfield 172, 3) := by decide +kernel
theorem dX8_byHand_68 : decode cX8_byHand 68 = .ok (.aload_n 0, 1) := by decide +kernel
theorem dX8_byHand_69 : decode cX8_byHand 69 = .ok (.iload_n 1, 1) := by decide +kernel
theorem dX8_byHand_70 : decode cX8_byHand 70 = .ok (.iload_n 2, 1) := by decide +kernel
theorem dX8_byHand_71 : decode cX8_byHand 71 = .ok (.invokevirtual 206, 3) := by decide +kernel
theorem dX8_byHand_74 : decode cX8_byHand 74 = .ok (.iconst 1, 1) := by decide +kernel
theorem dX8_byHand_75 : decode cX8_byHand 75 = .ok (.ireturn, 1) := by decide +kernel
set_option maxRecDepth 20000 in
theorem ggX8_open_X8_in : GoodIn wsX8_open wsX8_in := goodIn_r _ [6] (by decide +kernel) (by decide +kernel)
set_option maxRecDepth 20000 in
theorem gX8_open_X8_in : GoodIn wsX8_open (va_wsS RX8 148 yX8_in wsX8_in) := goodIn_app (goodIn_of _ (by decide +kernel)) ggX8_open_X8_in
set_option maxRecDepth 20000 in
theorem ggX8_open_X8_byHand : GoodIn wsX8_open wsX8_byHand := goodIn_r _ [10, 11, 12, 13, 14, 15, 16, 17, 18, 19, 5, 20, 21, 22, 23, 24, 25, 26, 27, 28, 29, 30, 31, 32, 33, 34, 35, 36, 37, 38, 39, 40, 41, 42, 43, 44, 45, 46, 47, 48, 49, 50, 51, 52, 53, 54, 55, 56, 57, 58, 59, 60, 61, 62, 63, 64, 65, 66, 67, 68, 69, 70, 71, 72, 73, 74, 75, 76, 77, 78] (by decide +kernel) (by decide +kernel)
set_option maxRecDepth 20000 in
theorem gX8_open_X8_byHand : GoodIn wsX8_open (wsV RX8 210 RX8 yX8_byHand wsX8_byHand) := goodIn_app (goodIn_of _ (by decide +kernel)) ggX8_open_X8_byHand
theorem dX8_open_0 : decode cX8_open 0 = .ok (.aload_n 0, 1) := by decide +kernel
theorem dX8_open_1 : decode cX8_open 1 = .ok (.iconst 0, 1) := by decide +kernel
theorem dX8_open_2 : decode cX8_open 2 = .ok (.putfield 1, 3) := by decide +kernel
theorem dX8_open_5 : decode cX8_open 5 = .ok (.iload_n 1, 1) := by decide +kernel
theorem dX8_open_6 : decode cX8_open 6 = .ok (.i2l, 1) := by decide +kernel
theorem dX8_open_7 : decode cX8_open 7 = .ok (.lconst 0, 1) := by decide +kernel
theorem dX8_open_8 : decode cX8_open 8 = .ok (.aload_n 0, 1) := by decide +kernel
theorem dX8_open_9 : decode cX8_open 9 = .ok (.getfield 177, 3) := by decide +kernel
theorem dX8_open_12 : decode cX8_open 12 = .ok (.iconst 1, 1) := by decide +kernel
theorem dX8_open_13 : decode cX8_open 13 = .ok (.isub, 1) := by decide +kernel
theorem dX8_open_14 : decode cX8_open 14 = .ok (.i2l, 1) := by decide +kernel
theorem dX8_open_15 : decode cX8_open 15 = .ok (.invokestatic 148, 3) := by decide +kernel
theorem dX8_open_18 : decode cX8_open 18 = .ok (.ifCond .eq 24, 3) := by decide +kernel
theorem dX8_open_21 : decode cX8_open 21 = .ok (.aload_n 0, 1) := by decide +kernel
theorem dX8_open_22 : decode cX8_open 22 = .ok (.iload_n 1, 1) := by decide +kernel
theorem dX8_open_23 : decode cX8_open 23 = .ok (.iload_n 2, 1) := by decide +kernel
theorem dX8_open_24 : decode cX8_open 24 = .ok (.ifCond .eq 7, 3) := by decide +kernel
theorem dX8_open_27 : decode cX8_open 27 = .ok (.iconst 1, 1) := by decide +kernel
theorem dX8_open_28 : decode cX8_open 28 = .ok (.goto 4, 3) := by decide +kernel
theorem dX8_open_31 : decode cX8_open 31 = .ok (.iconst 0, 1) := by decide +kernel
theorem dX8_open_32 : decode cX8_open 32 = .ok (.invokevirtual 210, 3) := by decide +kernel
theorem dX8_open_35 : decode cX8_open 35 = .ok (.ifCond .eq 7, 3) := by decide +kernel
theorem dX8_open_38 : decode cX8_open 38 = .ok (.iconst 1, 1) := by decide +kernel
theorem dX8_open_39 : decode cX8_open 39 = .ok (.goto 4, 3) := by decide +kernel
theorem dX8_open_42 : decode cX8_open 42 = .ok (.iconst 0, 1) := by decide +kernel
theorem dX8_open_43 : decode cX8_open 43 = .ok (.ireturn, 1) := by decide +kernel
set_option maxRecDepth 20000 in
theorem ggX8_cover_X8_isCell : GoodIn wsX8_cover wsX8_isCell := goodIn_r _ [7, 8, 9, 10, 11, 6, 12, 41, 42, 43, 44, 45, 46, 47, 48, 49, 50, 51, 52, 53, 54, 55, 56, 57, 58, 59, 60, 61, 62, 63, 64, 65, 66, 67, 68, 69, 70, 71, 72, 73, 74, 75, 76, 77, 78, 79, 80, 81, 82, 83, 84, 85, 86, 87, 88, 89, 90, 91, 92, 93, 94, 95, 96] (by decide +kernel) (by decide +kernel)
set_option maxRecDepth 20000 in
theorem gX8_cover_X8_isCell : GoodIn wsX8_cover (wsV RX8 186 RX8 yX8_isCell wsX8_isCell) := goodIn_app (goodIn_of _ (by decide +kernel)) ggX8_cover_X8_isCell
set_option maxRecDepth 20000 in
theorem ggX8_cover_X8_isOutside : GoodIn wsX8_cover wsX8_isOutside := goodIn_r _ [16, 8, 9, 17, 18, 19, 6, 20, 21, 22, 23, 24, 41, 42, 43, 44, 45, 46, 47, 48, 49, 50, 51, 52, 53, 54, 55, 56, 57, 58, 59, 60, 61, 62, 63, 64, 65, 66, 67, 68, 69, 70, 71, 72, 73, 74, 75, 76, 77, 78, 79, 80, 81, 82, 83, 84, 85, 86, 87, 88, 89, 90, 91, 92, 93, 94, 95, 96] (by decide +kernel) (by decide +kernel)
set_option maxRecDepth 20000 in
theorem gX8_cover_X8_isOutside : GoodIn wsX8_cover (wsV RX8 196 RX8 yX8_isOutside wsX8_isOutside) := goodIn_app (goodIn_of _ (by decide +kernel)) ggX8_cover_X8_isOutside
set_option maxRecDepth 20000 in
theorem ggX8_cover_X8_in : GoodIn wsX8_cover wsX8_in := goodIn_r _ [12] (by decide +kernel) (by decide +kernel)
set_option maxRecDepth 20000 in
theorem gX8_cover_X8_in : GoodIn wsX8_cover (va_wsS RX8 148 yX8_in wsX8_in) := goodIn_app (goodIn_of _ (by decide +kernel)) ggX8_cover_X8_in
set_option maxRecDepth 20000 in
theorem ggX8_cover_X8_byHand : GoodIn wsX8_cover wsX8_byHand := goodIn_r _ [28, 29, 30, 31, 32, 33, 34, 35, 36, 37, 6, 38, 39, 40, 41, 42, 43, 44, 45, 46, 47, 48, 49, 50, 51, 52, 53, 54, 55, 56, 57, 58, 59, 60, 61, 62, 63, 64, 65, 66, 67, 68, 69, 70, 71, 72, 73, 74, 75, 76, 77, 78, 79, 80, 81, 82, 83, 84, 85, 86, 87, 88, 89, 90, 91, 92, 93, 94, 95, 96] (by decide +kernel) (by decide +kernel)
set_option maxRecDepth 20000 in
theorem gX8_cover_X8_byHand : GoodIn wsX8_cover (wsV RX8 210 RX8 yX8_byHand wsX8_byHand) := goodIn_app (goodIn_of _ (by decide +kernel)) ggX8_cover_X8_byHand
theorem dX8_cover_0 : decode cX8_cover 0 = .ok (.aload_n 0, 1) := by decide +kernel
theorem dX8_cover_1 : decode cX8_cover 1 = .ok (.iconst 0, 1) := by decide +kernel
theorem dX8_cover_2 : decode cX8_cover 2 = .ok (.putfield 1, 3) := by decide +kernel
theorem dX8_cover_5 : decode cX8_cover 5 = .ok (.aload_n 0, 1) := by decide +kernel
theorem dX8_cover_6 : decode cX8_cover 6 = .ok (.iload_n 1, 1) := by decide +kernel
theorem dX8_cover_7 : decode cX8_cover 7 = .ok (.iload_n 2, 1) := by decide +kernel
theorem dX8_cover_8 : decode cX8_cover 8 = .ok (.invokevirtual 186, 3) := by decide +kernel
theorem dX8_cover_11 : decode cX8_cover 11 = .ok (.ifCond .eq 49, 3) := by decide +kernel
theorem dX8_cover_14 : decode cX8_cover 14 = .ok (.aload_n 0, 1) := by decide +kernel
theorem dX8_cover_15 : decode cX8_cover 15 = .ok (.iload_n 2, 1) := by decide +kernel
theorem dX8_cover_16 : decode cX8_cover 16 = .ok (.bipush 8, 2) := by decide +kernel
theorem dX8_cover_18 : decode cX8_cover 18 = .ok (.imul, 1) := by decide +kernel
theorem dX8_cover_19 : decode cX8_cover 19 = .ok (.iload_n 1, 1) := by decide +kernel
theorem dX8_cover_20 : decode cX8_cover 20 = .ok (.iadd, 1) := by decide +kernel
theorem dX8_cover_21 : decode cX8_cover 21 = .ok (.invokevirtual 196, 3) := by decide +kernel
theorem dX8_cover_24 : decode cX8_cover 24 = .ok (.ifCond .eq 36, 3) := by decide +kernel
theorem dX8_cover_27 : decode cX8_cover 27 = .ok (.iload_n 3, 1) := by decide +kernel
theorem dX8_cover_28 : decode cX8_cover 28 = .ok (.i2l, 1) := by decide +kernel
theorem dX8_cover_29 : decode cX8_cover 29 = .ok (.lconst 0, 1) := by decide +kernel
theorem dX8_cover_30 : decode cX8_cover 30 = .ok (.ldc2_w 213, 3) := by decide +kernel
theorem dX8_cover_33 : decode cX8_cover 33 = .ok (.invokestatic 148, 3) := by decide +kernel
theorem dX8_cover_36 : decode cX8_cover 36 = .ok (.ifCond .eq 24, 3) := by decide +kernel
theorem dX8_cover_39 : decode cX8_cover 39 = .ok (.aload_n 0, 1) := by decide +kernel
theorem dX8_cover_40 : decode cX8_cover 40 = .ok (.bipush 12, 2) := by decide +kernel
theorem dX8_cover_42 : decode cX8_cover 42 = .ok (.iload_n 2, 1) := by decide +kernel
theorem dX8_cover_43 : decode cX8_cover 43 = .ok (.bipush 8, 2) := by decide +kernel
theorem dX8_cover_45 : decode cX8_cover 45 = .ok (.imul, 1) := by decide +kernel
theorem dX8_cover_46 : decode cX8_cover 46 = .ok (.iadd, 1) := by decide +kernel
theorem dX8_cover_47 : decode cX8_cover 47 = .ok (.iload_n 1, 1) := by decide +kernel
theorem dX8_cover_48 : decode cX8_cover 48 = .ok (.iadd, 1) := by decide +kernel
theorem dX8_cover_49 : decode cX8_cover 49 = .ok (.iload_n 3, 1) := by decide +kernel
theorem dX8_cover_50 : decode cX8_cover 50 = .ok (.invokevirtual 210, 3) := by decide +kernel
theorem dX8_cover_53 : decode cX8_cover 53 = .ok (.ifCond .eq 7, 3) := by decide +kernel
theorem dX8_cover_56 : decode cX8_cover 56 = .ok (.iconst 1, 1) := by decide +kernel
theorem dX8_cover_57 : decode cX8_cover 57 = .ok (.goto 4, 3) := by decide +kernel
theorem dX8_cover_60 : decode cX8_cover 60 = .ok (.iconst 0, 1) := by decide +kernel
theorem dX8_cover_61 : decode cX8_cover 61 = .ok (.ireturn, 1) := by decide +kernel
theorem dX8_watch_0 : decode cX8_watch 0 = .ok (.aload_n 0, 1) := by decide +kernel
theorem dX8_watch_1 : decode cX8_watch 1 = .ok (.iconst 0, 1) := by decide +kernel
theorem dX8_watch_2 : decode cX8_watch 2 = .ok (.putfield 1, 3) := by decide +kernel
theorem dX8_watch_5 : decode cX8_watch 5 = .ok (.aload_n 0, 1) := by decide +kernel
theorem dX8_watch_6 : decode cX8_watch 6 = .ok (.getfield 159, 3) := by decide +kernel
theorem dX8_watch_9 : decode cX8_watch 9 = .ok (.ifCond .eq 5, 3) := by decide +kernel
theorem dX8_watch_12 : decode cX8_watch 12 = .ok (.iconst 0, 1) := by decide +kernel
theorem dX8_watch_13 : decode cX8_watch 13 = .ok (.ireturn, 1) := by decide +kernel
theorem dX8_watch_14 : decode cX8_watch 14 = .ok (.aload_n 0, 1) := by decide +kernel
theorem dX8_watch_15 : decode cX8_watch 15 = .ok (.iload_n 1, 1) := by decide +kernel
theorem dX8_watch_16 : decode cX8_watch 16 = .ok (.ldc 69, 2) := by decide +kernel
theorem dX8_watch_18 : decode cX8_watch 18 = .ok (.iand, 1) := by decide +kernel
theorem dX8_watch_19 : decode cX8_watch 19 = .ok (.putfield 70, 3) := by decide +kernel
theorem dX8_watch_22 : decode cX8_watch 22 = .ok (.iconst 1, 1) := by decide +kernel
theorem dX8_watch_23 : decode cX8_watch 23 = .ok (.ireturn, 1) := by decide +kernel
theorem dX8_away_0 : decode cX8_away 0 = .ok (.iload_n 0, 1) := by decide +kernel
theorem dX8_away_1 : decode cX8_away 1 = .ok (.bipush 8, 2) := by decide +kernel
theorem dX8_away_3 : decode cX8_away 3 = .ok (.irem, 1) := by decide +kernel
theorem dX8_away_4 : decode cX8_away 4 = .ok (.iload_n 1, 1) := by decide +kernel
theorem dX8_away_5 : decode cX8_away 5 = .ok (.bipush 8, 2) := by decide +kernel
theorem dX8_away_7 : decode cX8_away 7 = .ok (.irem, 1) := by decide +kernel
theorem dX8_away_8 : decode cX8_away 8 = .ok (.isub, 1) := by decide +kernel
theorem dX8_away_9 : decode cX8_away 9 = .ok (.invokestatic 215, 3) := by decide +kernel
theorem dX8_away_12 : decode cX8_away 12 = .ok (.iload_n 0, 1) := by decide +kernel
theorem dX8_away_13 : decode cX8_away 13 = .ok (.bipush 8, 2) := by decide +kernel
theorem dX8_away_15 : decode cX8_away 15 = .ok (.idiv, 1) := by decide +kernel
theorem dX8_away_16 : decode cX8_away 16 = .ok (.iload_n 1, 1) := by decide +kernel
theorem dX8_away_17 : decode cX8_away 17 = .ok (.bipush 8, 2) := by decide +kernel
theorem dX8_away_19 : decode cX8_away 19 = .ok (.idiv, 1) := by decide +kernel
theorem dX8_away_20 : decode cX8_away 20 = .ok (.isub, 1) := by decide +kernel
theorem dX8_away_21 : decode cX8_away 21 = .ok (.invokestatic 215, 3) := by decide +kernel
theorem dX8_away_24 : decode cX8_away 24 = .ok (.iadd, 1) := by decide +kernel
theorem dX8_away_25 : decode cX8_away 25 = .ok (.ireturn, 1) := by decide +kernel
set_option maxRecDepth 20000 in
theorem ggX8_isInside_X8_ringOf : GoodIn wsX8_isInside wsX8_ringOf := goodIn_r _ [7] (by decide +kernel) (by decide +kernel)
set_option maxRecDepth 20000 in
theorem gX8_isInside_X8_ringOf : GoodIn wsX8_isInside (wsV RX8 152 RX8 yX8_ringOf wsX8_ringOf) := goodIn_app (goodIn_of _ (by decide +kernel)) ggX8_isInside_X8_ringOf
set_option maxRecDepth 20000 in
theorem ggX8_isInside_X8_heightOf : GoodIn wsX8_isInside wsX8_heightOf := goodIn_r _ [11] (by decide +kernel) (by decide +kernel)
set_option maxRecDepth 20000 in
theorem gX8_isInside_X8_heightOf : GoodIn wsX8_isInside (wsV RX8 156 RX8 yX8_heightOf wsX8_heightOf) := goodIn_app (goodIn_of _ (by decide +kernel)) ggX8_isInside_X8_heightOf
theorem dX8_isInside_0 : decode cX8_isInside 0 = .ok (.aload_n 0, 1) := by decide +kernel
theorem dX8_isInside_1 : decode cX8_isInside 1 = .ok (.iload_n 1, 1) := by decide +kernel
theorem dX8_isInside_2 : decode cX8_isInside 2 = .ok (.invokevirtual 152, 3) := by decide +kernel
theorem dX8_isInside_5 : decode cX8_isInside 5 = .ok (.aload_n 0, 1) := by decide +kernel
theorem dX8_isInside_6 : decode cX8_isInside 6 = .ok (.getfield 13, 3) := by decide +kernel
theorem dX8_isInside_9 : decode cX8_isInside 9 = .ok (.if_icmp .ge 19, 3) := by decide +kernel
theorem dX8_isInside_12 : decode cX8_isInside 12 = .ok (.aload_n 0, 1) := by decide +kernel
theorem dX8_isInside_13 : decode cX8_isInside 13 = .ok (.iload_n 1, 1) := by decide +kernel
theorem dX8_isInside_14 : decode cX8_isInside 14 = .ok (.invokevirtual 156, 3) := by decide +kernel
theorem dX8_isInside_17 : decode cX8_isInside 17 = .ok (.aload_n 0, 1) := by decide +kernel
theorem dX8_isInside_18 : decode cX8_isInside 18 = .ok (.getfield 16, 3) := by decide +kernel
theorem dX8_isInside_21 : decode cX8_isInside 21 = .ok (.if_icmp .ge 7, 3) := by decide +kernel
theorem dX8_isInside_24 : decode cX8_isInside 24 = .ok (.iconst 1, 1) := by decide +kernel
theorem dX8_isInside_25 : decode cX8_isInside 25 = .ok (.goto 4, 3) := by decide +kernel
theorem dX8_isInside_28 : decode cX8_isInside 28 = .ok (.iconst 0, 1) := by decide +kernel
theorem dX8_isInside_29 : decode cX8_isInside 29 = .ok (.ireturn, 1) := by decide +kernel
set_option maxRecDepth 20000 in
theorem ggX8_airOf_X8_away : GoodIn wsX8_airOf wsX8_away := goodIn_r _ [12, 13, 14, 6, 15] (by decide +kernel) (by decide +kernel)
set_option maxRecDepth 20000 in
theorem gX8_airOf_X8_away : GoodIn wsX8_airOf (va_wsS RX8 220 yX8_away wsX8_away) := goodIn_app (goodIn_of _ (by decide +kernel)) ggX8_airOf_X8_away
set_option maxRecDepth 20000 in
theorem ggX8_airOf_X8_isInside : GoodIn wsX8_airOf wsX8_isInside := goodIn_r _ [19, 20, 21, 22, 23, 24, 11, 25, 26, 27, 28, 29, 34, 35, 36, 37, 38, 39, 40, 41, 42, 43, 44, 45, 46, 47, 48, 49, 50, 51, 52, 53, 54, 55, 56, 57, 58, 59, 60, 61, 62, 63, 64, 65, 66, 67, 68, 69, 70, 71, 72, 73, 74, 75, 76, 77, 78, 79, 80, 81, 82, 83, 84, 85, 86, 87, 88, 89] (by decide +kernel) (by decide +kernel)
set_option maxRecDepth 20000 in
theorem gX8_airOf_X8_isInside : GoodIn wsX8_airOf (wsV RX8 226 RX8 yX8_isInside wsX8_isInside) := goodIn_app (goodIn_of _ (by decide +kernel)) ggX8_airOf_X8_isInside
set_option maxRecDepth 20000 in
theorem ggX8_airOf_X8_isOutside : GoodIn wsX8_airOf wsX8_isOutside := goodIn_r _ [33, 20, 21, 22, 23, 24, 11, 25, 26, 27, 28, 29, 34, 35, 36, 37, 38, 39, 40, 41, 42, 43, 44, 45, 46, 47, 48, 49, 50, 51, 52, 53, 54, 55, 56, 57, 58, 59, 60, 61, 62, 63, 64, 65, 66, 67, 68, 69, 70, 71, 72, 73, 74, 75, 76, 77, 78, 79, 80, 81, 82, 83, 84, 85, 86, 87, 88, 89] (by decide +kernel) (by decide +kernel)
set_option maxRecDepth 20000 in
theorem gX8_airOf_X8_isOutside : GoodIn wsX8_airOf (wsV RX8 196 RX8 yX8_isOutside wsX8_isOutside) := goodIn_app (goodIn_of _ (by decide +kernel)) ggX8_airOf_X8_isOutside
theorem dX8_airOf_0 : decode cX8_airOf 0 = .ok (.iconst 0, 1) := by decide +kernel
theorem dX8_airOf_1 : decode cX8_airOf 1 = .ok (.istore_n 3, 1) := by decide +kernel
theorem dX8_airOf_2 : decode cX8_airOf 2 = .ok (.iconst 0, 1) := by decide +kernel
theorem dX8_airOf_3 : decode cX8_airOf 3 = .ok (.istore 4, 2) := by decide +kernel
theorem dX8_airOf_5 : decode cX8_airOf 5 = .ok (.iload 4, 2) := by decide +kernel
theorem dX8_airOf_7 : decode cX8_airOf 7 = .ok (.aload_n 0, 1) := by decide +kernel
theorem dX8_airOf_8 : decode cX8_airOf 8 = .ok (.getfield 177, 3) := by decide +kernel
theorem dX8_airOf_11 : decode cX8_airOf 11 = .ok (.if_icmp .ge 39, 3) := by decide +kernel
theorem dX8_airOf_14 : decode cX8_airOf 14 = .ok (.aload_n 0, 1) := by decide +kernel
theorem dX8_airOf_15 : decode cX8_airOf 15 = .ok (.getfield 54, 3) := by decide +kernel
theorem dX8_airOf_18 : decode cX8_airOf 18 = .ok (.iload 4, 2) := by decide +kernel
theorem dX8_airOf_20 : decode cX8_airOf 20 = .ok (.baload, 1) := by decide +kernel
theorem dX8_airOf_21 : decode cX8_airOf 21 = .ok (.ifCond .eq 23, 3) := by decide +kernel
theorem dX8_airOf_24 : decode cX8_airOf 24 = .ok (.iload_n 3, 1) := by decide +kernel
theorem dX8_airOf_25 : decode cX8_airOf 25 = .ok (.iconst 4, 1) := by decide +kernel
theorem dX8_airOf_26 : decode cX8_airOf 26 = .ok (.iload_n 2, 1) := by decide +kernel
theorem dX8_airOf_27 : decode cX8_airOf 27 = .ok (.iadd, 1) := by decide +kernel
theorem dX8_airOf_28 : decode cX8_airOf 28 = .ok (.iload_n 1, 1) := by decide +kernel
theorem dX8_airOf_29 : decode cX8_airOf 29 = .ok (.aload_n 0, 1) := by decide +kernel
theorem dX8_airOf_30 : decode cX8_airOf 30 = .ok (.getfield 51, 3) := by decide +kernel
theorem dX8_airOf_33 : decode cX8_airOf 33 = .ok (.iload 4, 2) := by decide +kernel
theorem dX8_airOf_35 : decode cX8_airOf 35 = .ok (.iaload, 1) := by decide +kernel
theorem dX8_airOf_36 : decode cX8_airOf 36 = .ok (.invokestatic 220, 3) := by decide +kernel
theorem dX8_airOf_39 : decode cX8_airOf 39 = .ok (.isub, 1) := by decide +kernel
theorem dX8_airOf_40 : decode cX8_airOf 40 = .ok (.invokestatic 223, 3) := by decide +kernel
theorem dX8_airOf_43 : decode cX8_airOf 43 = .ok (.istore_n 3, 1) := by decide +kernel
theorem dX8_airOf_44 : decode cX8_airOf 44 = .ok (.iinc 4 1, 3) := by decide +kernel
theorem dX8_airOf_47 : decode cX8_airOf 47 = .ok (.goto (-42), 3) := by decide +kernel
theorem dX8_airOf_50 : decode cX8_airOf 50 = .ok (.iconst 0, 1) := by decide +kernel
theorem dX8_airOf_51 : decode cX8_airOf 51 = .ok (.istore 4, 2) := by decide +kernel
theorem dX8_airOf_53 : decode cX8_airOf 53 = .ok (.iload 4, 2) := by decide +kernel
theorem dX8_airOf_55 : decode cX8_airOf 55 = .ok (.bipush 64, 2) := by decide +kernel
theorem dX8_airOf_57 : decode cX8_airOf 57 = .ok (.if_icmp .ge 52, 3) := by decide +kernel
theorem dX8_airOf_60 : decode cX8_airOf 60 = .ok (.aload_n 0, 1) := by decide +kernel
theorem dX8_airOf_61 : decode cX8_airOf 61 = .ok (.iload 4, 2) := by decide +kernel
theorem dX8_airOf_63 : decode cX8_airOf 63 = .ok (.invokevirtual 226, 3) := by decide +kernel
theorem dX8_airOf_66 : decode cX8_airOf 66 = .ok (.ifCond .eq 37, 3) := by decide +kernel
theorem dX8_airOf_69 : decode cX8_airOf 69 = .ok (.aload_n 0, 1) := by decide +kernel
theorem dX8_airOf_70 : decode cX8_airOf 70 = .ok (.iload 4, 2) := by decide +kernel
theorem dX8_airOf_72 : decode cX8_airOf 72 = .ok (.invokevirtual 196, 3) := by decide +kernel
theorem dX8_airOf_75 : decode cX8_airOf 75 = .ok (.ifCond .eq 28, 3) := by decide +kernel
theorem dX8_airOf_78 : decode cX8_airOf 78 = .ok (.aload_n 0, 1) := by decide +kernel
theorem dX8_airOf_79 : decode cX8_airOf 79 = .ok (.getfield 42, 3) := by decide +kernel
theorem dX8_airOf_82 : decode cX8_airOf 82 = .ok (.iload 4, 2) := by decide +kernel
theorem dX8_airOf_84 : decode cX8_airOf 84 = .ok (.iaload, 1) := by decide +kernel
theorem dX8_airOf_85 : decode cX8_airOf 85 = .ok (.ifCond .ne 18, 3) := by decide +kernel
theorem dX8_airOf_88 : decode cX8_airOf 88 = .ok (.iload_n 3, 1) := by decide +kernel
theorem dX8_airOf_89 : decode cX8_airOf 89 = .ok (.iconst 4, 1) := by decide +kernel
theorem dX8_airOf_90 : decode cX8_airOf 90 = .ok (.iload_n 2, 1) := by decide +kernel
theorem dX8_airOf_91 : decode cX8_airOf 91 = .ok (.iadd, 1) := by decide +kernel
theorem dX8_airOf_92 : decode cX8_airOf 92 = .ok (.iload_n 1, 1) := by decide +kernel
theorem dX8_airOf_93 : decode cX8_airOf 93 = .ok (.iload 4, 2) := by decide +kernel
theorem dX8_airOf_95 : decode cX8_airOf 95 = .ok (.invokestatic 220, 3) := by decide +kernel
theorem dX8_airOf_98 : decode cX8_airOf 98 = .ok (.isub, 1) := by decide +kernel
theorem dX8_airOf_99 : decode cX8_airOf 99 = .ok (.invokestatic 223, 3) := by decide +kernel
theorem dX8_airOf_102 : decode cX8_airOf 102 = .ok (.istore_n 3, 1) := by decide +kernel
theorem dX8_airOf_103 : decode cX8_airOf 103 = .ok (.iinc 4 1, 3) := by decide +kernel
theorem dX8_airOf_106 : decode cX8_airOf 106 = .ok (.goto (-53), 3) := by decide +kernel
theorem dX8_airOf_109 : decode cX8_airOf 109 = .ok (.iload_n 3, 1) := by decide +kernel
theorem dX8_airOf_110 : decode cX8_airOf 110 = .ok (.ireturn, 1) := by decide +kernel
set_option maxRecDepth 20000 in
theorem ggX8_burns_X8_rate : GoodIn wsX8_burns wsX8_rate := goodIn_r _ [19] (by decide +kernel) (by decide +kernel)
set_option maxRecDepth 20000 in
theorem gX8_burns_X8_rate : GoodIn wsX8_burns (va_wsS RX8 229 yX8_rate wsX8_rate) := goodIn_app (goodIn_of _ (by decide +kernel)) ggX8_burns_X8_rate
set_option maxRecDepth 20000 in
theorem ggX8_burns_X8_share : GoodIn wsX8_burns wsX8_share := goodIn_r _ [22] (by decide +kernel) (by decide +kernel)
set_option maxRecDepth 20000 in
theorem gX8_burns_X8_share : GoodIn wsX8_burns (va_wsS RX8 180 yX8_share wsX8_share) := goodIn_app (goodIn_of _ (by decide +kernel)) ggX8_burns_X8_share
set_option maxRecDepth 20000 in
theorem ggX8_burns_X8_yieldOf : GoodIn wsX8_burns wsX8_yieldOf := goodIn_r _ [25] (by decide +kernel) (by decide +kernel)
set_option maxRecDepth 20000 in
theorem gX8_burns_X8_yieldOf : GoodIn wsX8_burns (va_wsS RX8 235 yX8_yieldOf wsX8_yieldOf) := goodIn_app (goodIn_of _ (by decide +kernel)) ggX8_burns_X8_yieldOf
theorem dX8_burns_0 : decode cX8_burns 0 = .ok (.aload_n 0, 1) := by decide +kernel
theorem dX8_burns_1 : decode cX8_burns 1 = .ok (.getfield 45, 3) := by decide +kernel
theorem dX8_burns_4 : decode cX8_burns 4 = .ok (.iload_n 1, 1) := by decide +kernel
theorem dX8_burns_5 : decode cX8_burns 5 = .ok (.iaload, 1) := by decide +kernel
theorem dX8_burns_6 : decode cX8_burns 6 = .ok (.istore_n 2, 1) := by decide +kernel
theorem dX8_burns_7 : decode cX8_burns 7 = .ok (.iconst 0, 1) := by decide +kernel
theorem dX8_burns_8 : decode cX8_burns 8 = .ok (.istore_n 3, 1) := by decide +kernel
theorem dX8_burns_9 : decode cX8_burns 9 = .ok (.iload_n 2, 1) := by decide +kernel
theorem dX8_burns_10 : decode cX8_burns 10 = .ok (.ifCond .ne 25, 3) := by decide +kernel
theorem dX8_burns_13 : decode cX8_burns 13 = .ok (.aload_n 0, 1) := by decide +kernel
theorem dX8_burns_14 : decode cX8_burns 14 = .ok (.getfield 29, 3) := by decide +kernel
theorem dX8_burns_17 : decode cX8_burns 17 = .ok (.iload_n 1, 1) := by decide +kernel
theorem dX8_burns_18 : decode cX8_burns 18 = .ok (.iconst 0, 1) := by decide +kernel
theorem dX8_burns_19 : decode cX8_burns 19 = .ok (.aload_n 0, 1) := by decide +kernel
theorem dX8_burns_20 : decode cX8_burns 20 = .ok (.getfield 29, 3) := by decide +kernel
theorem dX8_burns_23 : decode cX8_burns 23 = .ok (.iload_n 1, 1) := by decide +kernel
theorem dX8_burns_24 : decode cX8_burns 24 = .ok (.iaload, 1) := by decide +kernel
theorem dX8_burns_25 : decode cX8_burns 25 = .ok (.bipush 50, 2) := by decide +kernel
theorem dX8_burns_27 : decode cX8_burns 27 = .ok (.isub, 1) := by decide +kernel
theorem dX8_burns_28 : decode cX8_burns 28 = .ok (.invokestatic 223, 3) := by decide +kernel
theorem dX8_burns_31 : decode cX8_burns 31 = .ok (.iastore, 1) := by decide +kernel
theorem dX8_burns_32 : decode cX8_burns 32 = .ok (.goto 179, 3) := by decide +kernel
theorem dX8_burns_35 : decode cX8_burns 35 = .ok (.aload_n 0, 1) := by decide +kernel
theorem dX8_burns_36 : decode cX8_burns 36 = .ok (.getfield 26, 3) := by decide +kernel
theorem dX8_burns_39 : decode cX8_burns 39 = .ok (.iload_n 1, 1) := by decide +kernel
theorem dX8_burns_40 : decode cX8_burns 40 = .ok (.iaload, 1) := by decide +kernel
theorem dX8_burns_41 : decode cX8_burns 41 = .ok (.ifCond .le 27, 3) := by decide +kernel
theorem dX8_burns_44 : decode cX8_burns 44 = .ok (.aload_n 0, 1) := by decide +kernel
theorem dX8_burns_45 : decode cX8_burns 45 = .ok (.getfield 26, 3) := by decide +kernel
theorem dX8_burns_48 : decode cX8_burns 48 = .ok (.iload_n 1, 1) := by decide +kernel
theorem dX8_burns_49 : decode cX8_burns 49 = .ok (.iconst 0, 1) := by decide +kernel
theorem dX8_burns_50 : decode cX8_burns 50 = .ok (.aload_n 0, 1) := by decide +kernel
theorem dX8_burns_51 : decode cX8_burns 51 = .ok (.getfield 26, 3) := by decide +kernel
theorem dX8_burns_54 : decode cX8_burns 54 = .ok (.iload_n 1, 1) := by decide +kernel
theorem dX8_burns_55 : decode cX8_burns 55 = .ok (.iaload, 1) := by decide +kernel
theorem dX8_burns_56 : decode cX8_burns 56 = .ok (.bipush 10, 2) := by decide +kernel
theorem dX8_burns_58 : decode cX8_burns 58 = .ok (.iload_n 2, 1) := by decide +kernel
theorem dX8_burns_59 : decode cX8_burns 59 = .ok (.imul, 1) := by decide +kernel
theorem dX8_burns_60 : decode cX8_burns 60 = .ok (.isub, 1) := by decide +kernel
theorem dX8_burns_61 : decode cX8_burns 61 = .ok (.invokestatic 223, 3) := by decide +kernel
theorem dX8_burns_64 : decode cX8_burns 64 = .ok (.iastore, 1) := by decide +kernel
theorem dX8_burns_65 : decode cX8_burns 65 = .ok (.goto 146, 3) := by decide +kernel
theorem dX8_burns_68 : decode cX8_burns 68 = .ok (.aload_n 0, 1) := by decide +kernel
theorem dX8_burns_69 : decode cX8_burns 69 = .ok (.getfield 19, 3) := by decide +kernel
theorem dX8_burns_72 : decode cX8_burns 72 = .ok (.iload_n 1, 1) := by decide +kernel
theorem dX8_burns_73 : decode cX8_burns 73 = .ok (.iaload, 1) := by decide +kernel
theorem dX8_burns_74 : decode cX8_burns 74 = .ok (.aload_n 0, 1) := by decide +kernel
theorem dX8_burns_75 : decode cX8_burns 75 = .ok (.getfield 36, 3) := by decide +kernel
theorem dX8_burns_78 : decode cX8_burns 78 = .ok (.iload_n 1, 1) := by decide +kernel
theorem dX8_burns_79 : decode cX8_burns 79 = .ok (.iaload, 1) := by decide +kernel
theorem dX8_burns_80 : decode cX8_burns 80 = .ok (.invokestatic 229, 3) := by decide +kernel
theorem dX8_burns_83 : decode cX8_burns 83 = .ok (.iload_n 2, 1) := by decide +kernel
theorem dX8_burns_84 : decode cX8_burns 84 = .ok (.imul, 1) := by decide +kernel
theorem dX8_burns_85 : decode cX8_burns 85 = .ok (.iload_n 1, 1) := by decide +kernel
theorem dX8_burns_86 : decode cX8_burns 86 = .ok (.invokestatic 180, 3) := by decide +kernel
theorem dX8_burns_89 : decode cX8_burns 89 = .ok (.imul, 1) := by decide +kernel
theorem dX8_burns_90 : decode cX8_burns 90 = .ok (.invokestatic 232, 3) := by decide +kernel
theorem dX8_burns_93 : decode cX8_burns 93 = .ok (.istore 4, 2) := by decide +kernel
theorem dX8_burns_95 : decode cX8_burns 95 = .ok (.iload 4, 2) := by decide +kernel
theorem dX8_burns_97 : decode cX8_burns 97 = .ok (.aload_n 0, 1) := by decide +kernel
theorem dX8_burns_98 : decode cX8_burns 98 = .ok (.getfield 36, 3) := by decide +kernel
theorem dX8_burns_101 : decode cX8_burns 101 = .ok (.iload_n 1, 1) := by decide +kernel
theorem dX8_burns_102 : decode cX8_burns 102 = .ok (.iaload, 1) := by decide +kernel
theorem dX8_burns_103 : decode cX8_burns 103 = .ok (.invokestatic 235, 3) := by decide +kernel
theorem dX8_burns_106 : decode cX8_burns 106 = .ok (.imul, 1) := by decide +kernel
theorem dX8_burns_107 : decode cX8_burns 107 = .ok (.bipush 100, 2) := by decide +kernel
theorem dX8_burns_109 : decode cX8_burns 109 = .ok (.idiv, 1) := by decide +kernel
theorem dX8_burns_110 : decode cX8_burns 110 = .ok (.istore 5, 2) := by decide +kernel
theorem dX8_burns_112 : decode cX8_burns 112 = .ok (.aload_n 0, 1) := by decide +kernel
theorem dX8_burns_113 : decode cX8_burns 113 = .ok (.getfield 19, 3) := by decide +kernel
theorem dX8_burns_116 : decode cX8_burns 116 = .ok (.iload_n 1, 1) := by decide +kernel
theorem dX8_burns_117 : decode cX8_burns 117 = .ok (.dup2, 1) := by decide +kernel
theorem dX8_burns_118 : decode cX8_burns 118 = .ok (.iaload, 1) := by decide +kernel
theorem dX8_burns_119 : decode cX8_burns 119 = .ok (.iload 4, 2) := by decide +kernel
theorem dX8_burns_121 : decode cX8_burns 121 = .ok (.isub, 1) := by decide +kernel
theorem dX8_burns_122 : decode cX8_burns 122 = .ok (.iastore, 1) := by decide +kernel
theorem dX8_burns_123 : decode cX8_burns 123 = .ok (.aload_n 0, 1) := by decide +kernel
theorem dX8_burns_124 : decode cX8_burns 124 = .ok (.getfield 23, 3) := by decide +kernel
theorem dX8_burns_127 : decode cX8_burns 127 = .ok (.iload_n 1, 1) := by decide +kernel
theorem dX8_burns_128 : decode cX8_burns 128 = .ok (.dup2, 1) := by decide +kernel
theorem dX8_burns_129 : decode cX8_burns 129 = .ok (.iaload, 1) := by decide +kernel
theorem dX8_burns_130 : decode cX8_burns 130 = .ok (.iload 5, 2) := by decide +kernel
theorem dX8_burns_132 : decode cX8_burns 132 = .ok (.iadd, 1) := by decide +kernel
theorem dX8_burns_133 : decode cX8_burns 133 = .ok (.iastore, 1) := by decide +kernel
theorem dX8_burns_134 : decode cX8_burns 134 = .ok (.iload 4, 2) := by decide +kernel
theorem dX8_burns_136 : decode cX8_burns 136 = .ok (.iload 5, 2) := by decide +kernel
theorem dX8_burns_138 : decode cX8_burns 138 = .ok (.isub, 1) := by decide +kernel
theorem dX8_burns_139 : decode cX8_burns 139 = .ok (.istore_n 3, 1) := by decide +kernel
theorem dX8_burns_140 : decode cX8_burns 140 = .ok (.aload_n 0, 1) := by decide +kernel
theorem dX8_burns_141 : decode cX8_burns 141 = .ok (.getfield 29, 3) := by decide +kernel
theorem dX8_burns_144 : decode cX8_burns 144 = .ok (.iload_n 1, 1) := by decide +kernel
theorem dX8_burns_145 : decode cX8_burns 145 = .ok (.sipush 1000, 3) := by decide +kernel
theorem dX8_burns_148 : decode cX8_burns 148 = .ok (.aload_n 0, 1) := by decide +kernel
theorem dX8_burns_149 : decode cX8_burns 149 = .ok (.getfield 29, 3) := by decide +kernel
theorem dX8_burns_152 : decode cX8_burns 152 = .ok (.iload_n 1, 1) := by decide +kernel
theorem dX8_burns_153 : decode cX8_burns 153 = .ok (.iaload, 1) := by decide +kernel
theorem dX8_burns_154 : decode cX8_burns 154 = .ok (.bipush 40, 2) := by decide +kernel
theorem dX8_burns_156 : decode cX8_burns 156 = .ok (.iload_n 2, 1) := by decide +kernel
theorem dX8_burns_157 : decode cX8_burns 157 = .ok (.imul, 1) := by decide +kernel
theorem dX8_burns_158 : decode cX8_burns 158 = .ok (.iadd, 1) := by decide +kernel
theorem dX8_burns_159 : decode cX8_burns 159 = .ok (.invokestatic 232, 3) := by decide +kernel
theorem dX8_burns_162 : decode cX8_burns 162 = .ok (.iastore, 1) := by decide +kernel
theorem dX8_burns_163 : decode cX8_burns 163 = .ok (.iload_n 2, 1) := by decide +kernel
theorem dX8_burns_164 : decode cX8_burns 164 = .ok (.iconst 3, 1) := by decide +kernel
theorem dX8_burns_165 : decode cX8_burns 165 = .ok (.if_icmp .le 46, 3) := by decide +kernel
theorem dX8_burns_168 : decode cX8_burns 168 = .ok (.aload_n 0, 1) := by decide +kernel
theorem dX8_burns_169 : decode cX8_burns 169 = .ok (.getfield 23, 3) := by decide +kernel
theorem dX8_burns_172 : decode cX8_burns 172 = .ok (.iload_n 1, 1) := by decide +kernel
theorem dX8_burns_173 : decode cX8_burns 173 = .ok (.iaload, 1) := by decide +kernel
theorem dX8_burns_174 : decode cX8_burns 174 = .ok (.iconst 5, 1) := by decide +kernel
theorem dX8_burns_175 : decode cX8_burns 175 = .ok (.iload_n 1, 1) := by decide +kernel
theorem dX8_burns_176 : decode cX8_burns 176 = .ok (.invokestatic 180, 3) := by decide +kernel
theorem dX8_burns_179 : decode cX8_burns 179 = .ok (.imul, 1) := by decide +kernel
theorem dX8_burns_180 : decode cX8_burns 180 = .ok (.iload_n 2, 1) := by decide +kernel
theorem dX8_burns_181 : decode cX8_burns 181 = .ok (.iconst 3, 1) := by decide +kernel
theorem dX8_burns_182 : decode cX8_burns 182 = .ok (.isub, 1) := by decide +kernel
theorem dX8_burns_183 : decode cX8_burns 183 = .ok (.imul, 1) := by decide +kernel
theorem dX8_burns_184 : decode cX8_burns 184 = .ok (.invokestatic 232, 3) := by decide +kernel
theorem dX8_burns_187 : decode cX8_burns 187 = .ok (.istore 6, 2) := by decide +kernel
theorem dX8_burns_189 : decode cX8_burns 189 = .ok (.aload_n 0, 1) := by decide +kernel
theorem dX8_burns_190 : decode cX8_burns 190 = .ok (.getfield 23, 3) := by decide +kernel
theorem dX8_burns_193 : decode cX8_burns 193 = .ok (.iload_n 1, 1) := by decide +kernel
theorem dX8_burns_194 : decode cX8_burns 194 = .ok (.dup2, 1) := by decide +kernel
theorem dX8_burns_195 : decode cX8_burns 195 = .ok (.iaload, 1) := by decide +kernel
theorem dX8_burns_196 : decode cX8_burns 196 = .ok (.iload 6, 2) := by decide +kernel
theorem dX8_burns_198 : decode cX8_burns 198 = .ok (.isub, 1) := by decide +kernel
theorem dX8_burns_199 : decode cX8_burns 199 = .ok (.iastore, 1) := by decide +kernel
theorem dX8_burns_200 : decode cX8_burns 200 = .ok (.aload_n 0, 1) := by decide +kernel
theorem dX8_burns_201 : decode cX8_burns 201 = .ok (.dup, 1) := by decide +kernel
theorem dX8_burns_202 : decode cX8_burns 202 = .ok (.getfield 169, 3) := by decide +kernel
theorem dX8_burns_205 : decode cX8_burns 205 = .ok (.iload 6, 2) := by decide +kernel
theorem dX8_burns_207 : decode cX8_burns 207 = .ok (.iadd, 1) := by decide +kernel
theorem dX8_burns_208 : decode cX8_burns 208 = .ok (.putfield 169, 3) := by decide +kernel
theorem dX8_burns_211 : decode cX8_burns 211 = .ok (.aload_n 0, 1) := by decide +kernel
theorem dX8_burns_212 : decode cX8_burns 212 = .ok (.getfield 32, 3) := by decide +kernel
theorem dX8_burns_215 : decode cX8_burns 215 = .ok (.iload_n 1, 1) := by decide +kernel
theorem dX8_burns_216 : decode cX8_burns 216 = .ok (.aload_n 0, 1) := by decide +kernel
theorem dX8_burns_217 : decode cX8_burns 217 = .ok (.getfield 29, 3) := by decide +kernel
theorem dX8_burns_220 : decode cX8_burns 220 = .ok (.iload_n 1, 1) := by decide +kernel
theorem dX8_burns_221 : decode cX8_burns 221 = .ok (.iaload, 1) := by decide +kernel
theorem dX8_burns_222 : decode cX8_burns 222 = .ok (.ifCond .le 25, 3) := by decide +kernel
theorem dX8_burns_225 : decode cX8_burns 225 = .ok (.aload_n 0, 1) := by decide +kernel
theorem dX8_burns_226 : decode cX8_burns 226 = .ok (.getfield 19, 3) := by decide +kernel
theorem dX8_burns_229 : decode cX8_burns 229 = .ok (.iload_n 1, 1) := by decide +kernel
theorem dX8_burns_230 : decode cX8_burns 230 = .ok (.iaload, 1) := by decide +kernel
theorem dX8_burns_231 : decode cX8_burns 231 = .ok (.ifCond .gt 12, 3) := by decide +kernel
theorem dX8_burns_234 : decode cX8_burns 234 = .ok (.aload_n 0, 1) := by decide +kernel
theorem dX8_burns_235 : decode cX8_burns 235 = .ok (.getfield 23, 3) := by decide +kernel
theorem dX8_burns_238 : decode cX8_burns 238 = .ok (.iload_n 1, 1) := by decide +kernel
theorem dX8_burns_239 : decode cX8_burns 239 = .ok (.iaload, 1) := by decide +kernel
theorem dX8_burns_240 : decode cX8_burns 240 = .ok (.ifCond .le 7, 3) := by decide +kernel
theorem dX8_burns_243 : decode cX8_burns 243 = .ok (.iconst 1, 1) := by decide +kernel
theorem dX8_burns_244 : decode cX8_burns 244 = .ok (.goto 4, 3) := by decide +kernel
theorem dX8_burns_247 : decode cX8_burns 247 = .ok (.iconst 0, 1) := by decide +kernel
theorem dX8_burns_248 : decode cX8_burns 248 = .ok (.bastore, 1) := by decide +kernel
theorem dX8_burns_249 : decode cX8_burns 249 = .ok (.iload_n 3, 1) := by decide +kernel
theorem dX8_burns_250 : decode cX8_burns 250 = .ok (.ireturn, 1) := by decide +kernel
set_option maxRecDepth 20000 in
theorem ggX8_warms_X8_isInside : GoodIn wsX8_warms wsX8_isInside := goodIn_r _ [13, 14, 15, 16, 17, 18, 12, 19, 20, 21, 22, 23, 30, 31, 32, 33, 34, 35, 36, 37, 38, 39, 40, 41, 42, 43, 44, 45, 46, 47, 48, 49, 50, 51, 52, 53, 54, 55, 56, 57, 58, 59, 60, 61, 62, 63, 64, 65, 66, 67, 68, 69, 70, 71, 72, 73, 74, 75, 76, 77, 78, 79, 80, 81, 82, 83, 84, 85] (by decide +kernel) (by decide +kernel)
set_option maxRecDepth 20000 in
theorem gX8_warms_X8_isInside : GoodIn wsX8_warms (wsV RX8 226 RX8 yX8_isInside wsX8_isInside) := goodIn_app (goodIn_of _ (by decide +kernel)) ggX8_warms_X8_isInside
set_option maxRecDepth 20000 in
theorem ggX8_warms_X8_away : GoodIn wsX8_warms wsX8_away := goodIn_r _ [26, 27, 28, 6, 29] (by decide +kernel) (by decide +kernel)
set_option maxRecDepth 20000 in
theorem gX8_warms_X8_away : GoodIn wsX8_warms (va_wsS RX8 220 yX8_away wsX8_away) := goodIn_app (goodIn_of _ (by decide +kernel)) ggX8_warms_X8_away
theorem dX8_warms_0 : decode cX8_warms 0 = .ok (.iconst 0, 1) := by decide +kernel
theorem dX8_warms_1 : decode cX8_warms 1 = .ok (.istore_n 2, 1) := by decide +kernel
theorem dX8_warms_2 : decode cX8_warms 2 = .ok (.iconst 0, 1) := by decide +kernel
theorem dX8_warms_3 : decode cX8_warms 3 = .ok (.istore_n 3, 1) := by decide +kernel
theorem dX8_warms_4 : decode cX8_warms 4 = .ok (.iload_n 3, 1) := by decide +kernel
theorem dX8_warms_5 : decode cX8_warms 5 = .ok (.bipush 64, 2) := by decide +kernel
theorem dX8_warms_7 : decode cX8_warms 7 = .ok (.if_icmp .ge 48, 3) := by decide +kernel
theorem dX8_warms_10 : decode cX8_warms 10 = .ok (.iload_n 2, 1) := by decide +kernel
theorem dX8_warms_11 : decode cX8_warms 11 = .ok (.aload_n 0, 1) := by decide +kernel
theorem dX8_warms_12 : decode cX8_warms 12 = .ok (.iload_n 3, 1) := by decide +kernel
theorem dX8_warms_13 : decode cX8_warms 13 = .ok (.invokevirtual 226, 3) := by decide +kernel
theorem dX8_warms_16 : decode cX8_warms 16 = .ok (.ifCond .eq 30, 3) := by decide +kernel
theorem dX8_warms_19 : decode cX8_warms 19 = .ok (.iload_n 1, 1) := by decide +kernel
theorem dX8_warms_20 : decode cX8_warms 20 = .ok (.iload_n 3, 1) := by decide +kernel
theorem dX8_warms_21 : decode cX8_warms 21 = .ok (.invokestatic 220, 3) := by decide +kernel
theorem dX8_warms_24 : decode cX8_warms 24 = .ok (.iconst 1, 1) := by decide +kernel
theorem dX8_warms_25 : decode cX8_warms 25 = .ok (.if_icmp .ne 21, 3) := by decide +kernel
theorem dX8_warms_28 : decode cX8_warms 28 = .ok (.aload_n 0, 1) := by decide +kernel
theorem dX8_warms_29 : decode cX8_warms 29 = .ok (.getfield 103, 3) := by decide +kernel
theorem dX8_warms_32 : decode cX8_warms 32 = .ok (.iload_n 3, 1) := by decide +kernel
theorem dX8_warms_33 : decode cX8_warms 33 = .ok (.baload, 1) := by decide +kernel
theorem dX8_warms_34 : decode cX8_warms 34 = .ok (.ifCond .eq 12, 3) := by decide +kernel
theorem dX8_warms_37 : decode cX8_warms 37 = .ok (.aload_n 0, 1) := by decide +kernel
theorem dX8_warms_38 : decode cX8_warms 38 = .ok (.getfield 100, 3) := by decide +kernel
theorem dX8_warms_41 : decode cX8_warms 41 = .ok (.iload_n 3, 1) := by decide +kernel
theorem dX8_warms_42 : decode cX8_warms 42 = .ok (.iaload, 1) := by decide +kernel
theorem dX8_warms_43 : decode cX8_warms 43 = .ok (.goto 4, 3) := by decide +kernel
theorem dX8_warms_46 : decode cX8_warms 46 = .ok (.iconst 0, 1) := by decide +kernel
theorem dX8_warms_47 : decode cX8_warms 47 = .ok (.iadd, 1) := by decide +kernel
theorem dX8_warms_48 : decode cX8_warms 48 = .ok (.istore_n 2, 1) := by decide +kernel
theorem dX8_warms_49 : decode cX8_warms 49 = .ok (.iinc 3 1, 3) := by decide +kernel
theorem dX8_warms_52 : decode cX8_warms 52 = .ok (.goto (-48), 3) := by decide +kernel
theorem dX8_warms_55 : decode cX8_warms 55 = .ok (.aload_n 0, 1) := by decide +kernel
theorem dX8_warms_56 : decode cX8_warms 56 = .ok (.getfield 29, 3) := by decide +kernel
theorem dX8_warms_59 : decode cX8_warms 59 = .ok (.iload_n 1, 1) := by decide +kernel
theorem dX8_warms_60 : decode cX8_warms 60 = .ok (.sipush 1000, 3) := by decide +kernel
theorem dX8_warms_63 : decode cX8_warms 63 = .ok (.aload_n 0, 1) := by decide +kernel
theorem dX8_warms_64 : decode cX8_warms 64 = .ok (.getfield 29, 3) := by decide +kernel
theorem dX8_warms_67 : decode cX8_warms 67 = .ok (.iload_n 1, 1) := by decide +kernel
theorem dX8_warms_68 : decode cX8_warms 68 = .ok (.iaload, 1) := by decide +kernel
theorem dX8_warms_69 : decode cX8_warms 69 = .ok (.iload_n 2, 1) := by decide +kernel
theorem dX8_warms_70 : decode cX8_warms 70 = .ok (.bipush 20, 2) := by decide +kernel
theorem dX8_warms_72 : decode cX8_warms 72 = .ok (.idiv, 1) := by decide +kernel
theorem dX8_warms_73 : decode cX8_warms 73 = .ok (.iadd, 1) := by decide +kernel
theorem dX8_warms_74 : decode cX8_warms 74 = .ok (.invokestatic 232, 3) := by decide +kernel
theorem dX8_warms_77 : decode cX8_warms 77 = .ok (.iastore, 1) := by decide +kernel
theorem dX8_warms_78 : decode cX8_warms 78 = .ok (.aload_n 0, 1) := by decide +kernel
theorem dX8_warms_79 : decode cX8_warms 79 = .ok (.getfield 32, 3) := by decide +kernel
theorem dX8_warms_82 : decode cX8_warms 82 = .ok (.iload_n 1, 1) := by decide +kernel
theorem dX8_warms_83 : decode cX8_warms 83 = .ok (.aload_n 0, 1) := by decide +kernel
theorem dX8_warms_84 : decode cX8_warms 84 = .ok (.getfield 29, 3) := by decide +kernel
theorem dX8_warms_87 : decode cX8_warms 87 = .ok (.iload_n 1, 1) := by decide +kernel
theorem dX8_warms_88 : decode cX8_warms 88 = .ok (.iaload, 1) := by decide +kernel
theorem dX8_warms_89 : decode cX8_warms 89 = .ok (.sipush 300, 3) := by decide +kernel
theorem dX8_warms_92 : decode cX8_warms 92 = .ok (.if_icmp .lt 7, 3) := by decide +kernel
theorem dX8_warms_95 : decode cX8_warms 95 = .ok (.iconst 1, 1) := by decide +kernel
theorem dX8_warms_96 : decode cX8_warms 96 = .ok (.goto 4, 3) := by decide +kernel
theorem dX8_warms_99 : decode cX8_warms 99 = .ok (.iconst 0, 1) := by decide +kernel
theorem dX8_warms_100 : decode cX8_warms 100 = .ok (.bastore, 1) := by decide +kernel
theorem dX8_warms_101 : decode cX8_warms 101 = .ok (.return_, 1) := by decide +kernel
theorem dX8_opened_0 : decode cX8_opened 0 = .ok (.iconst 0, 1) := by decide +kernel
theorem dX8_opened_1 : decode cX8_opened 1 = .ok (.istore_n 1, 1) := by decide +kernel
theorem dX8_opened_2 : decode cX8_opened 2 = .ok (.iconst 0, 1) := by decide +kernel
theorem dX8_opened_3 : decode cX8_opened 3 = .ok (.istore_n 2, 1) := by decide +kernel
theorem dX8_opened_4 : decode cX8_opened 4 = .ok (.iload_n 2, 1) := by decide +kernel
theorem dX8_opened_5 : decode cX8_opened 5 = .ok (.aload_n 0, 1) := by decide +kernel
theorem dX8_opened_6 : decode cX8_opened 6 = .ok (.getfield 177, 3) := by decide +kernel
theorem dX8_opened_9 : decode cX8_opened 9 = .ok (.if_icmp .ge 26, 3) := by decide +kernel
theorem dX8_opened_12 : decode cX8_opened 12 = .ok (.iload_n 1, 1) := by decide +kernel
theorem dX8_opened_13 : decode cX8_opened 13 = .ok (.aload_n 0, 1) := by decide +kernel
theorem dX8_opened_14 : decode cX8_opened 14 = .ok (.getfield 54, 3) := by decide +kernel
theorem dX8_opened_17 : decode cX8_opened 17 = .ok (.iload_n 2, 1) := by decide +kernel
theorem dX8_opened_18 : decode cX8_opened 18 = .ok (.baload, 1) := by decide +kernel
theorem dX8_opened_19 : decode cX8_opened 19 = .ok (.ifCond .eq 7, 3) := by decide +kernel
theorem dX8_opened_22 : decode cX8_opened 22 = .ok (.iconst 1, 1) := by decide +kernel
theorem dX8_opened_23 : decode cX8_opened 23 = .ok (.goto 4, 3) := by decide +kernel
theorem dX8_opened_26 : decode cX8_opened 26 = .ok (.iconst 0, 1) := by decide +kernel
theorem dX8_opened_27 : decode cX8_opened 27 = .ok (.iadd, 1) := by decide +kernel
theorem dX8_opened_28 : decode cX8_opened 28 = .ok (.istore_n 1, 1) := by decide +kernel
theorem dX8_opened_29 : decode cX8_opened 29 = .ok (.iinc 2 1, 3) := by decide +kernel
theorem dX8_opened_32 : decode cX8_opened 32 = .ok (.goto (-28), 3) := by decide +kernel
theorem dX8_opened_35 : decode cX8_opened 35 = .ok (.iload_n 1, 1) := by decide +kernel
theorem dX8_opened_36 : decode cX8_opened 36 = .ok (.ireturn, 1) := by decide +kernel
set_option maxRecDepth 20000 in
theorem ggX8_works_X8_isInside : GoodIn wsX8_works wsX8_isInside := goodIn_r _ [27, 9, 10, 28, 29, 30, 26, 31, 32, 33, 34, 35, 119, 120, 121, 122, 123, 124, 125, 126, 127, 128, 129, 130, 131, 132, 133, 134, 135, 136, 137, 138, 139, 140, 141, 142, 143, 144, 145, 146, 147, 148, 149, 150, 151, 152, 153, 154, 155, 156, 157, 158, 159, 160, 161, 162, 163, 164, 165, 166, 167, 168, 169, 170, 171, 172, 173, 174] (by decide +kernel) (by decide +kernel)
set_option maxRecDepth 20000 in
theorem gX8_works_X8_isInside : GoodIn wsX8_works (wsV RX8 226 RX8 yX8_isInside wsX8_isInside) := goodIn_app (goodIn_of _ (by decide +kernel)) ggX8_works_X8_isInside
set_option maxRecDepth 20000 in
theorem ggX8_works_X8_airOf : GoodIn wsX8_works wsX8_airOf := goodIn_r _ [39, 40, 41, 42, 43, 44, 14, 45, 46, 47, 48, 26, 49, 50, 51, 52, 23, 24, 25, 27, 9, 10, 28, 29, 30, 31, 32, 33, 34, 35, 53, 54, 55, 56, 119, 120, 121, 122, 123, 124, 125, 126, 127, 128, 129, 130, 131, 132, 133, 134, 135, 136, 137, 138, 139, 140, 141, 142, 143, 144, 145, 146, 147, 148, 149, 150, 151, 152, 153, 154, 155, 156, 157, 158, 159, 160, 161, 162, 163, 164, 165, 166, 167, 168, 169, 170, 171, 172, 173, 174] (by decide +kernel) (by decide +kernel)
set_option maxRecDepth 20000 in
theorem gX8_works_X8_airOf : GoodIn wsX8_works (wsV RX8 238 RX8 yX8_airOf wsX8_airOf) := goodIn_app (goodIn_of _ (by decide +kernel)) ggX8_works_X8_airOf
set_option maxRecDepth 20000 in
theorem ggX8_works_X8_burns : GoodIn wsX8_works wsX8_burns := goodIn_r _ [60, 1, 3, 43, 44, 14, 45, 11, 6, 61, 12, 13, 15, 7, 62, 5, 63, 64, 26, 65, 66, 67, 68, 69, 70, 71, 119, 120, 121, 122, 123, 124, 125, 126, 127, 128, 129, 130, 131, 132, 133, 134, 135, 136, 137, 138, 139, 140, 141, 142, 143, 144, 145, 146, 147, 148, 149, 150, 151, 152, 153, 154, 155, 156, 157, 158, 159, 160, 161, 162, 163, 164, 165, 166, 167, 168, 169, 170, 171, 172, 173, 174] (by decide +kernel) (by decide +kernel)
set_option maxRecDepth 20000 in
theorem gX8_works_X8_burns : GoodIn wsX8_works (wsV RX8 241 RX8 yX8_burns wsX8_burns) := goodIn_app (goodIn_of _ (by decide +kernel)) ggX8_works_X8_burns
set_option maxRecDepth 20000 in
theorem ggX8_works_X8_warms : GoodIn wsX8_works wsX8_warms := goodIn_r _ [75, 4, 2, 3, 12, 13, 14, 15, 5, 23, 24, 25, 26, 27, 9, 10, 28, 29, 30, 31, 32, 33, 34, 35, 47, 48, 49, 50, 51, 52, 119, 120, 121, 122, 123, 124, 125, 126, 127, 128, 129, 130, 131, 132, 133, 134, 135, 136, 137, 138, 139, 140, 141, 142, 143, 144, 145, 146, 147, 148, 149, 150, 151, 152, 153, 154, 155, 156, 157, 158, 159, 160, 161, 162, 163, 164, 165, 166, 167, 168, 169, 170, 171, 172, 173, 174] (by decide +kernel) (by decide +kernel)
set_option maxRecDepth 20000 in
theorem gX8_works_X8_warms : GoodIn wsX8_works (wsV RX8 244 RX8 yX8_warms wsX8_warms) := goodIn_app (goodIn_of _ (by decide +kernel)) ggX8_works_X8_warms
set_option maxRecDepth 20000 in
theorem ggX8_works_X8_sinks : GoodIn wsX8_works wsX8_sinks := goodIn_r _ [79, 80, 6, 7, 46, 81, 17, 23, 24, 25, 26, 27, 9, 10, 28, 29, 30, 31, 32, 33, 34, 35, 53, 54, 55, 56, 119, 120, 121, 122, 123, 124, 125, 126, 127, 128, 129, 130, 131, 132, 133, 134, 135, 136, 137, 138, 139, 140, 141, 142, 143, 144, 145, 146, 147, 148, 149, 150, 151, 152, 153, 154, 155, 156, 157, 158, 159, 160, 161, 162, 163, 164, 165, 166, 167, 168, 169, 170, 171, 172, 173, 174] (by decide +kernel) (by decide +kernel)
set_option maxRecDepth 20000 in
theorem gX8_works_X8_sinks : GoodIn wsX8_works (wsV RX8 248 RX8 yX8_sinks wsX8_sinks) := goodIn_app (goodIn_of _ (by decide +kernel)) ggX8_works_X8_sinks
set_option maxRecDepth 20000 in
theorem ggX8_works_X8_share : GoodIn wsX8_works wsX8_share := goodIn_r _ [68] (by decide +kernel) (by decide +kernel)
set_option maxRecDepth 20000 in
theorem gX8_works_X8_share : GoodIn wsX8_works (va_wsS RX8 180 yX8_share wsX8_share) := goodIn_app (goodIn_of _ (by decide +kernel)) ggX8_works_X8_share
set_option maxRecDepth 20000 in
theorem ggX8_works_X8_bareCells : GoodIn wsX8_works wsX8_bareCells := goodIn_r _ [85, 46, 23, 24, 25, 26, 27, 9, 10, 28, 29, 30, 31, 32, 33, 34, 35, 53, 54, 55, 56, 119, 120, 121, 122, 123, 124, 125, 126, 127, 128, 129, 130, 131, 132, 133, 134, 135, 136, 137, 138, 139, 140, 141, 142, 143, 144, 145, 146, 147, 148, 149, 150, 151, 152, 153, 154, 155, 156, 157, 158, 159, 160, 161, 162, 163, 164, 165, 166, 167, 168, 169, 170, 171, 172, 173, 174] (by decide +kernel) (by decide +kernel)
set_option maxRecDepth 20000 in
theorem gX8_works_X8_bareCells : GoodIn wsX8_works (wsV RX8 251 RX8 yX8_bareCells wsX8_bareCells) := goodIn_app (goodIn_of _ (by decide +kernel)) ggX8_works_X8_bareCells
set_option maxRecDepth 20000 in
theorem ggX8_works_X8_watchers : GoodIn wsX8_works wsX8_watchers := goodIn_r _ [89, 90, 17, 46, 91, 92, 82, 83, 84, 26, 85, 23, 24, 25, 27, 9, 10, 28, 29, 30, 31, 32, 33, 34, 35, 53, 54, 55, 56, 93, 94, 95, 96, 97, 98, 99, 100, 101, 102, 103, 104, 105, 106, 107, 108, 40, 41, 109, 110, 111, 112, 113, 12, 13, 14, 15, 114, 119, 120, 121, 122, 123, 124, 125, 126, 127, 128, 129, 130, 131, 132, 133, 134, 135, 136, 137, 138, 139, 140, 141, 142, 143, 144, 145, 146, 147, 148, 149, 150, 151, 152, 153, 154, 155, 156, 157, 158, 159, 160, 161, 162, 163, 164, 165, 166, 167, 168, 169, 170, 171, 172, 173, 174] (by decide +kernel) (by decide +kernel)
set_option maxRecDepth 20000 in
theorem gX8_works_X8_watchers : GoodIn wsX8_works (wsV RX8 255 RX8 yX8_watchers wsX8_watchers) := goodIn_app (goodIn_of _ (by decide +kernel)) ggX8_works_X8_watchers
set_option maxRecDepth 20000 in
theorem ggX8_works_X8_burning : GoodIn wsX8_works wsX8_burning := goodIn_r _ [118, 5, 119, 120, 121, 122, 123, 124, 125, 126, 127, 128, 129, 130, 131, 132, 133, 134, 135, 136, 137, 138, 139, 140, 141, 142, 143, 144, 145, 146, 147, 148, 149, 150, 151, 152, 153, 154, 155, 156, 157, 158, 159, 160, 161, 162, 163, 164, 165, 166, 167, 168, 169, 170, 171, 172, 173, 174] (by decide +kernel) (by decide +kernel)
set_option maxRecDepth 20000 in
theorem gX8_works_X8_burning : GoodIn wsX8_works (wsV RX8 259 RX8 yX8_burning wsX8_burning) := goodIn_app (goodIn_of _ (by decide +kernel)) ggX8_works_X8_burning
theorem dX8_works_0 : decode cX8_works 0 = .ok (.iconst 0, 1) := by decide +kernel
theorem dX8_works_1 : decode cX8_works 1 = .ok (.istore_n 3, 1) := by decide +kernel
theorem dX8_works_2 : decode cX8_works 2 = .ok (.iconst 0, 1) := by decide +kernel
theorem dX8_works_3 : decode cX8_works 3 = .ok (.istore 4, 2) := by decide +kernel
theorem dX8_works_5 : decode cX8_works 5 = .ok (.iload 4, 2) := by decide +kernel
theorem dX8_works_7 : decode cX8_works 7 = .ok (.bipush 64, 2) := by decide +kernel
theorem dX8_works_9 : decode cX8_works 9 = .ok (.if_icmp .ge 64, 3) := by decide +kernel
theorem dX8_works_12 : decode cX8_works 12 = .ok (.aload_n 0, 1) := by decide +kernel
theorem dX8_works_13 : decode cX8_works 13 = .ok (.getfield 45, 3) := by decide +kernel
theorem dX8_works_16 : decode cX8_works 16 = .ok (.iload 4, 2) := by decide +kernel
theorem dX8_works_18 : decode cX8_works 18 = .ok (.aload_n 0, 1) := by decide +kernel
theorem dX8_works_19 : decode cX8_works 19 = .ok (.iload 4, 2) := by decide +kernel
theorem dX8_works_21 : decode cX8_works 21 = .ok (.invokevirtual 226, 3) := by decide +kernel
theorem dX8_works_24 : decode cX8_works 24 = .ok (.ifCond .eq 13, 3) := by decide +kernel
theorem dX8_works_27 : decode cX8_works 27 = .ok (.aload_n 0, 1) := by decide +kernel
theorem dX8_works_28 : decode cX8_works 28 = .ok (.iload 4, 2) := by decide +kernel
theorem dX8_works_30 : decode cX8_works 30 = .ok (.iload_n 2, 1) := by decide +kernel
theorem dX8_works_31 : decode cX8_works 31 = .ok (.invokevirtual 238, 3) := by decide +kernel
theorem dX8_works_34 : decode cX8_works 34 = .ok (.goto 4, 3) := by decide +kernel
theorem dX8_works_37 : decode cX8_works 37 = .ok (.iconst 0, 1) := by decide +kernel
theorem dX8_works_38 : decode cX8_works 38 = .ok (.iastore, 1) := by decide +kernel
theorem dX8_works_39 : decode cX8_works 39 = .ok (.aload_n 0, 1) := by decide +kernel
theorem dX8_works_40 : decode cX8_works 40 = .ok (.getfield 100, 3) := by decide +kernel
theorem dX8_works_43 : decode cX8_works 43 = .ok (.iload 4, 2) := by decide +kernel
theorem dX8_works_45 : decode cX8_works 45 = .ok (.aload_n 0, 1) := by decide +kernel
theorem dX8_works_46 : decode cX8_works 46 = .ok (.getfield 29, 3) := by decide +kernel
theorem dX8_works_49 : decode cX8_works 49 = .ok (.iload 4, 2) := by decide +kernel
theorem dX8_works_51 : decode cX8_works 51 = .ok (.iaload, 1) := by decide +kernel
theorem dX8_works_52 : decode cX8_works 52 = .ok (.iastore, 1) := by decide +kernel
theorem dX8_works_53 : decode cX8_works 53 = .ok (.aload_n 0, 1) := by decide +kernel
theorem dX8_works_54 : decode cX8_works 54 = .ok (.getfield 103, 3) := by decide +kernel
theorem dX8_works_57 : decode cX8_works 57 = .ok (.iload 4, 2) := by decide +kernel
theorem dX8_works_59 : decode cX8_works 59 = .ok (.aload_n 0, 1) := by decide +kernel
theorem dX8_works_60 : decode cX8_works 60 = .ok (.getfield 32, 3) := by decide +kernel
theorem dX8_works_63 : decode cX8_works 63 = .ok (.iload 4, 2) := by decide +kernel
theorem dX8_works_65 : decode cX8_works 65 = .ok (.baload, 1) := by decide +kernel
theorem dX8_works_66 : decode cX8_works 66 = .ok (.bastore, 1) := by decide +kernel
theorem dX8_works_67 : decode cX8_works 67 = .ok (.iinc 4 1, 3) := by decide +kernel
theorem dX8_works_70 : decode cX8_works 70 = .ok (.goto (-65), 3) := by decide +kernel
theorem dX8_works_73 : decode cX8_works 73 = .ok (.iconst 0, 1) := by decide +kernel
theorem dX8_works_74 : decode cX8_works 74 = .ok (.istore 4, 2) := by decide +kernel
theorem dX8_works_76 : decode cX8_works 76 = .ok (.iload 4, 2) := by decide +kernel
theorem dX8_works_78 : decode cX8_works 78 = .ok (.bipush 64, 2) := by decide +kernel
theorem dX8_works_80 : decode cX8_works 80 = .ok (.if_icmp .ge 28, 3) := by decide +kernel
theorem dX8_works_83 : decode cX8_works 83 = .ok (.aload_n 0, 1) := by decide +kernel
theorem dX8_works_84 : decode cX8_works 84 = .ok (.getfield 103, 3) := by decide +kernel
theorem dX8_works_87 : decode cX8_works 87 = .ok (.iload 4, 2) := by decide +kernel
theorem dX8_works_89 : decode cX8_works 89 = .ok (.baload, 1) := by decide +kernel
theorem dX8_works_90 : decode cX8_works 90 = .ok (.ifCond .eq 12, 3) := by decide +kernel
theorem dX8_works_93 : decode cX8_works 93 = .ok (.iload_n 3, 1) := by decide +kernel
theorem dX8_works_94 : decode cX8_works 94 = .ok (.aload_n 0, 1) := by decide +kernel
theorem dX8_works_95 : decode cX8_works 95 = .ok (.iload 4, 2) := by decide +kernel
theorem dX8_works_97 : decode cX8_works 97 = .ok (.invokevirtual 241, 3) := by decide +kernel
theorem dX8_works_100 : decode cX8_works 100 = .ok (.iadd, 1) := by decide +kernel
theorem dX8_works_101 : decode cX8_works 101 = .ok (.istore_n 3, 1) := by decide +kernel
theorem dX8_works_102 : decode cX8_works 102 = .ok (.iinc 4 1, 3) := by decide +kernel
theorem dX8_works_105 : decode cX8_works 105 = .ok (.goto (-29), 3) := by decide +kernel
theorem dX8_works_108 : decode cX8_works 108 = .ok (.iconst 0, 1) := by decide +kernel
theorem dX8_works_109 : decode cX8_works 109 = .ok (.istore 4, 2) := by decide +kernel
theorem dX8_works_111 : decode cX8_works 111 = .ok (.iload 4, 2) := by decide +kernel
theorem dX8_works_113 : decode cX8_works 113 = .ok (.bipush 64, 2) := by decide +kernel
theorem dX8_works_115 : decode cX8_works 115 = .ok (.if_icmp .ge 54, 3) := by decide +kernel
theorem dX8_works_118 : decode cX8_works 118 = .ok (.aload_n 0, 1) := by decide +kernel
theorem dX8_works_119 : decode cX8_works 119 = .ok (.iload 4, 2) := by decide +kernel
theorem dX8_works_121 : decode cX8_works 121 = .ok (.invokevirtual 226, 3) := by decide +kernel
theorem dX8_works_124 : decode cX8_works 124 = .ok (.ifCond .eq 39, 3) := by decide +kernel
theorem dX8_works_127 : decode cX8_works 127 = .ok (.aload_n 0, 1) := by decide +kernel
theorem dX8_works_128 : decode cX8_works 128 = .ok (.getfield 103, 3) := by decide +kernel
theorem dX8_works_131 : decode cX8_works 131 = .ok (.iload 4, 2) := by decide +kernel
theorem dX8_works_133 : decode cX8_works 133 = .ok (.baload, 1) := by decide +kernel
theorem dX8_works_134 : decode cX8_works 134 = .ok (.ifCond .ne 29, 3) := by decide +kernel
theorem dX8_works_137 : decode cX8_works 137 = .ok (.aload_n 0, 1) := by decide +kernel
theorem dX8_works_138 : decode cX8_works 138 = .ok (.getfield 19, 3) := by decide +kernel
theorem dX8_works_141 : decode cX8_works 141 = .ok (.iload 4, 2) := by decide +kernel
theorem dX8_works_143 : decode cX8_works 143 = .ok (.iaload, 1) := by decide +kernel
theorem dX8_works_144 : decode cX8_works 144 = .ok (.ifCond .gt 13, 3) := by decide +kernel
theorem dX8_works_147 : decode cX8_works 147 = .ok (.aload_n 0, 1) := by decide +kernel
theorem dX8_works_148 : decode cX8_works 148 = .ok (.getfield 23, 3) := by decide +kernel
theorem dX8_works_151 : decode cX8_works 151 = .ok (.iload 4, 2) := by decide +kernel
theorem dX8_works_153 : decode cX8_works 153 = .ok (.iaload, 1) := by decide +kernel
theorem dX8_works_154 : decode cX8_works 154 = .ok (.ifCond .le 9, 3) := by decide +kernel
theorem dX8_works_157 : decode cX8_works 157 = .ok (.aload_n 0, 1) := by decide +kernel
theorem dX8_works_158 : decode cX8_works 158 = .ok (.iload 4, 2) := by decide +kernel
theorem dX8_works_160 : decode cX8_works 160 = .ok (.invokevirtual 244, 3) := by decide +kernel
theorem dX8_works_163 : decode cX8_works 163 = .ok (.iinc 4 1, 3) := by decide +kernel
theorem dX8_works_166 : decode cX8_works 166 = .ok (.goto (-55), 3) := by decide +kernel
theorem dX8_works_169 : decode cX8_works 169 = .ok (.aload_n 0, 1) := by decide +kernel
theorem dX8_works_170 : decode cX8_works 170 = .ok (.dup, 1) := by decide +kernel
theorem dX8_works_171 : decode cX8_works 171 = .ok (.getfield 166, 3) := by decide +kernel
theorem dX8_works_174 : decode cX8_works 174 = .ok (.iload_n 3, 1) := by decide +kernel
theorem dX8_works_175 : decode cX8_works 175 = .ok (.iadd, 1) := by decide +kernel
theorem dX8_works_176 : decode cX8_works 176 = .ok (.putfield 166, 3) := by decide +kernel
theorem dX8_works_179 : decode cX8_works 179 = .ok (.aload_n 0, 1) := by decide +kernel
theorem dX8_works_180 : decode cX8_works 180 = .ok (.invokevirtual 248, 3) := by decide +kernel
theorem dX8_works_183 : decode cX8_works 183 = .ok (.iconst 0, 1) := by decide +kernel
theorem dX8_works_184 : decode cX8_works 184 = .ok (.istore 4, 2) := by decide +kernel
theorem dX8_works_186 : decode cX8_works 186 = .ok (.iload 4, 2) := by decide +kernel
theorem dX8_works_188 : decode cX8_works 188 = .ok (.aload_n 0, 1) := by decide +kernel
theorem dX8_works_189 : decode cX8_works 189 = .ok (.getfield 13, 3) := by decide +kernel
theorem dX8_works_192 : decode cX8_works 192 = .ok (.if_icmp .ge 56, 3) := by decide +kernel
theorem dX8_works_195 : decode cX8_works 195 = .ok (.aload_n 0, 1) := by decide +kernel
theorem dX8_works_196 : decode cX8_works 196 = .ok (.getfield 16, 3) := by decide +kernel
theorem dX8_works_199 : decode cX8_works 199 = .ok (.iconst 1, 1) := by decide +kernel
theorem dX8_works_200 : decode cX8_works 200 = .ok (.isub, 1) := by decide +kernel
theorem dX8_works_201 : decode cX8_works 201 = .ok (.bipush 8, 2) := by decide +kernel
theorem dX8_works_203 : decode cX8_works 203 = .ok (.imul, 1) := by decide +kernel
theorem dX8_works_204 : decode cX8_works 204 = .ok (.iload 4, 2) := by decide +kernel
theorem dX8_works_206 : decode cX8_works 206 = .ok (.iadd, 1) := by decide +kernel
theorem dX8_works_207 : decode cX8_works 207 = .ok (.istore 5, 2) := by decide +kernel
theorem dX8_works_209 : decode cX8_works 209 = .ok (.aload_n 0, 1) := by decide +kernel
theorem dX8_works_210 : decode cX8_works 210 = .ok (.getfield 26, 3) := by decide +kernel
theorem dX8_works_213 : decode cX8_works 213 = .ok (.iload 5, 2) := by decide +kernel
theorem dX8_works_215 : decode cX8_works 215 = .ok (.bipush 100, 2) := by decide +kernel
theorem dX8_works_217 : decode cX8_works 217 = .ok (.iload 5, 2) := by decide +kernel
theorem dX8_works_219 : decode cX8_works 219 = .ok (.invokestatic 180, 3) := by decide +kernel
theorem dX8_works_222 : decode cX8_works 222 = .ok (.imul, 1) := by decide +kernel
theorem dX8_works_223 : decode cX8_works 223 = .ok (.aload_n 0, 1) := by decide +kernel
theorem dX8_works_224 : decode cX8_works 224 = .ok (.getfield 26, 3) := by decide +kernel
theorem dX8_works_227 : decode cX8_works 227 = .ok (.iload 5, 2) := by decide +kernel
theorem dX8_works_229 : decode cX8_works 229 = .ok (.iaload, 1) := by decide +kernel
theorem dX8_works_230 : decode cX8_works 230 = .ok (.iload_n 1, 1) := by decide +kernel
theorem dX8_works_231 : decode cX8_works 231 = .ok (.iload 5, 2) := by decide +kernel
theorem dX8_works_233 : decode cX8_works 233 = .ok (.invokestatic 180, 3) := by decide +kernel
theorem dX8_works_236 : decode cX8_works 236 = .ok (.imul, 1) := by decide +kernel
theorem dX8_works_237 : decode cX8_works 237 = .ok (.iadd, 1) := by decide +kernel
theorem dX8_works_238 : decode cX8_works 238 = .ok (.invokestatic 232, 3) := by decide +kernel
theorem dX8_works_241 : decode cX8_works 241 = .ok (.iastore, 1) := by decide +kernel
theorem dX8_works_242 : decode cX8_works 242 = .ok (.iinc 4 1, 3) := by decide +kernel
theorem dX8_works_245 : decode cX8_works 245 = .ok (.goto (-59), 3) := by decide +kernel
theorem dX8_works_248 : decode cX8_works 248 = .ok (.aload_n 0, 1) := by decide +kernel
theorem dX8_works_249 : decode cX8_works 249 = .ok (.getfield 82, 3) := by decide +kernel
theorem dX8_works_252 : decode cX8_works 252 = .ok (.aload_n 0, 1) := by decide +kernel
theorem dX8_works_253 : decode cX8_works 253 = .ok (.getfield 163, 3) := by decide +kernel
theorem dX8_works_256 : decode cX8_works 256 = .ok (.iload_n 1, 1) := by decide +kernel
theorem dX8_works_257 : decode cX8_works 257 = .ok (.iastore, 1) := by decide +kernel
theorem dX8_works_258 : decode cX8_works 258 = .ok (.aload_n 0, 1) := by decide +kernel
theorem dX8_works_259 : decode cX8_works 259 = .ok (.getfield 85, 3) := by decide +kernel
theorem dX8_works_262 : decode cX8_works 262 = .ok (.aload_n 0, 1) := by decide +kernel
theorem dX8_works_263 : decode cX8_works 263 = .ok (.getfield 163, 3) := by decide +kernel
theorem dX8_works_266 : decode cX8_works 266 = .ok (.iload_n 2, 1) := by decide +kernel
theorem dX8_works_267 : decode cX8_works 267 = .ok (.iastore, 1) := by decide +kernel
theorem dX8_works_268 : decode cX8_works 268 = .ok (.aload_n 0, 1) := by decide +kernel
theorem dX8_works_269 : decode cX8_works 269 = .ok (.getfield 88, 3) := by decide +kernel
theorem dX8_works_272 : decode cX8_works 272 = .ok (.aload_n 0, 1) := by decide +kernel
theorem dX8_works_273 : decode cX8_works 273 = .ok (.getfield 163, 3) := by decide +kernel
theorem dX8_works_276 : decode cX8_works 276 = .ok (.iload_n 3, 1) := by decide +kernel
theorem dX8_works_277 : decode cX8_works 277 = .ok (.iastore, 1) := by decide +kernel
theorem dX8_works_278 : decode cX8_works 278 = .ok (.aload_n 0, 1) := by decide +kernel
theorem dX8_works_279 : decode cX8_works 279 = .ok (.getfield 97, 3) := by decide +kernel
theorem dX8_works_282 : decode cX8_works 282 = .ok (.aload_n 0, 1) := by decide +kernel
theorem dX8_works_283 : decode cX8_works 283 = .ok (.getfield 163, 3) := by decide +kernel
theorem dX8_works_286 : decode cX8_works 286 = .ok (.aload_n 0, 1) := by decide +kernel
theorem dX8_works_287 : decode cX8_works 287 = .ok (.invokevirtual 251, 3) := by decide +kernel
theorem dX8_works_290 : decode cX8_works 290 = .ok (.iastore, 1) := by decide +kernel
theorem dX8_works_291 : decode cX8_works 291 = .ok (.aload_n 0, 1) := by decide +kernel
theorem dX8_works_292 : decode cX8_works 292 = .ok (.getfield 91, 3) := by decide +kernel
theorem dX8_works_295 : decode cX8_works 295 = .ok (.aload_n 0, 1) := by decide +kernel
theorem dX8_works_296 : decode cX8_works 296 = .ok (.getfield 163, 3) := by decide +kernel
theorem dX8_works_299 : decode cX8_works 299 = .ok (.aload_n 0, 1) := by decide +kernel
theorem dX8_works_300 : decode cX8_works 300 = .ok (.iload_n 3, 1) := by decide +kernel
theorem dX8_works_301 : decode cX8_works 301 = .ok (.iload_n 1, 1) := by decide +kernel
theorem dX8_works_302 : decode cX8_works 302 = .ok (.iload_n 2, 1) := by decide +kernel
theorem dX8_works_303 : decode cX8_works 303 = .ok (.invokevirtual 255, 3) := by decide +kernel
theorem dX8_works_306 : decode cX8_works 306 = .ok (.iastore, 1) := by decide +kernel
theorem dX8_works_307 : decode cX8_works 307 = .ok (.aload_n 0, 1) := by decide +kernel
theorem dX8_works_308 : decode cX8_works 308 = .ok (.getfield 94, 3) := by decide +kernel
theorem dX8_works_311 : decode cX8_works 311 = .ok (.aload_n 0, 1) := by decide +kernel
theorem dX8_works_312 : decode cX8_works 312 = .ok (.getfield 163, 3) := by decide +kernel
theorem dX8_works_315 : decode cX8_works 315 = .ok (.aload_n 0, 1) := by decide +kernel
theorem dX8_works_316 : decode cX8_works 316 = .ok (.invokevirtual 259, 3) := by decide +kernel
theorem dX8_works_319 : decode cX8_works 319 = .ok (.iastore, 1) := by decide +kernel
theorem dX8_works_320 : decode cX8_works 320 = .ok (.aload_n 0, 1) := by decide +kernel
theorem dX8_works_321 : decode cX8_works 321 = .ok (.dup, 1) := by decide +kernel
theorem dX8_works_322 : decode cX8_works 322 = .ok (.getfield 163, 3) := by decide +kernel
theorem dX8_works_325 : decode cX8_works 325 = .ok (.iconst 1, 1) := by decide +kernel
theorem dX8_works_326 : decode cX8_works 326 = .ok (.iadd, 1) := by decide +kernel
theorem dX8_works_327 : decode cX8_works 327 = .ok (.putfield 163, 3) := by decide +kernel
theorem dX8_works_330 : decode cX8_works 330 = .ok (.iload_n 3, 1) := by decide +kernel
theorem dX8_works_331 : decode cX8_works 331 = .ok (.ireturn, 1) := by decide +kernel
set_option maxRecDepth 20000 in
theorem ggX8_sinks_X8_isInside : GoodIn wsX8_sinks wsX8_isInside := goodIn_r _ [11, 12, 13, 14, 15, 16, 10, 17, 18, 19, 20, 21, 26, 27, 28, 29, 30, 31, 32, 33, 34, 35, 36, 37, 38, 39, 40, 41, 42, 43, 44, 45, 46, 47, 48, 49, 50, 51, 52, 53, 54, 55, 56, 57, 58, 59, 60, 61, 62, 63, 64, 65, 66, 67, 68, 69, 70, 71, 72, 73, 74, 75, 76, 77, 78, 79, 80, 81] (by decide +kernel) (by decide +kernel)
set_option maxRecDepth 20000 in
theorem gX8_sinks_X8_isInside : GoodIn wsX8_sinks (wsV RX8 226 RX8 yX8_isInside wsX8_isInside) := goodIn_app (goodIn_of _ (by decide +kernel)) ggX8_sinks_X8_isInside
set_option maxRecDepth 20000 in
theorem ggX8_sinks_X8_isOutside : GoodIn wsX8_sinks wsX8_isOutside := goodIn_r _ [25, 12, 13, 14, 15, 16, 10, 17, 18, 19, 20, 21, 26, 27, 28, 29, 30, 31, 32, 33, 34, 35, 36, 37, 38, 39, 40, 41, 42, 43, 44, 45, 46, 47, 48, 49, 50, 51, 52, 53, 54, 55, 56, 57, 58, 59, 60, 61, 62, 63, 64, 65, 66, 67, 68, 69, 70, 71, 72, 73, 74, 75, 76, 77, 78, 79, 80, 81] (by decide +kernel) (by decide +kernel)
set_option maxRecDepth 20000 in
theorem gX8_sinks_X8_isOutside : GoodIn wsX8_sinks (wsV RX8 196 RX8 yX8_isOutside wsX8_isOutside) := goodIn_app (goodIn_of _ (by decide +kernel)) ggX8_sinks_X8_isOutside
theorem dX8_sinks_0 : decode cX8_sinks 0 = .ok (.iconst 0, 1) := by decide +kernel
theorem dX8_sinks_1 : decode cX8_sinks 1 = .ok (.istore_n 1, 1) := by decide +kernel
theorem dX8_sinks_2 : decode cX8_sinks 2 = .ok (.iload_n 1, 1) := by decide +kernel
theorem dX8_sinks_3 : decode cX8_sinks 3 = .ok (.bipush 64, 2) := by decide +kernel
theorem dX8_sinks_5 : decode cX8_sinks 5 = .ok (.if_icmp .ge 116, 3) := by decide +kernel
theorem dX8_sinks_8 : decode cX8_sinks 8 = .ok (.aload_n 0, 1) := by decide +kernel
theorem dX8_sinks_9 : decode cX8_sinks 9 = .ok (.iload_n 1, 1) := by decide +kernel
theorem dX8_sinks_10 : decode cX8_sinks 10 = .ok (.invokevirtual 226, 3) := by decide +kernel
theorem dX8_sinks_13 : decode cX8_sinks 13 = .ok (.ifCond .eq 102, 3) := by decide +kernel
theorem dX8_sinks_16 : decode cX8_sinks 16 = .ok (.aload_n 0, 1) := by decide +kernel
theorem dX8_sinks_17 : decode cX8_sinks 17 = .ok (.iload_n 1, 1) := by decide +kernel
theorem dX8_sinks_18 : decode cX8_sinks 18 = .ok (.invokevirtual 196, 3) := by decide +kernel
theorem dX8_sinks_21 : decode cX8_sinks 21 = .ok (.ifCond .eq 94, 3) := by decide +kernel
theorem dX8_sinks_24 : decode cX8_sinks 24 = .ok (.aload_n 0, 1) := by decide +kernel
theorem dX8_sinks_25 : decode cX8_sinks 25 = .ok (.getfield 39, 3) := by decide +kernel
theorem dX8_sinks_28 : decode cX8_sinks 28 = .ok (.iload_n 1, 1) := by decide +kernel
theorem dX8_sinks_29 : decode cX8_sinks 29 = .ok (.iaload, 1) := by decide +kernel
theorem dX8_sinks_30 : decode cX8_sinks 30 = .ok (.ifCond .le 85, 3) := by decide +kernel
theorem dX8_sinks_33 : decode cX8_sinks 33 = .ok (.iconst 2, 1) := by decide +kernel
theorem dX8_sinks_34 : decode cX8_sinks 34 = .ok (.aload_n 0, 1) := by decide +kernel
theorem dX8_sinks_35 : decode cX8_sinks 35 = .ok (.getfield 19, 3) := by decide +kernel
theorem dX8_sinks_38 : decode cX8_sinks 38 = .ok (.iload_n 1, 1) := by decide +kernel
theorem dX8_sinks_39 : decode cX8_sinks 39 = .ok (.iaload, 1) := by decide +kernel
theorem dX8_sinks_40 : decode cX8_sinks 40 = .ok (.iconst 2, 1) := by decide +kernel
theorem dX8_sinks_41 : decode cX8_sinks 41 = .ok (.aload_n 0, 1) := by decide +kernel
theorem dX8_sinks_42 : decode cX8_sinks 42 = .ok (.getfield 23, 3) := by decide +kernel
theorem dX8_sinks_45 : decode cX8_sinks 45 = .ok (.iload_n 1, 1) := by decide +kernel
theorem dX8_sinks_46 : decode cX8_sinks 46 = .ok (.iaload, 1) := by decide +kernel
theorem dX8_sinks_47 : decode cX8_sinks 47 = .ok (.imul, 1) := by decide +kernel
theorem dX8_sinks_48 : decode cX8_sinks 48 = .ok (.iadd, 1) := by decide +kernel
theorem dX8_sinks_49 : decode cX8_sinks 49 = .ok (.imul, 1) := by decide +kernel
theorem dX8_sinks_50 : decode cX8_sinks 50 = .ok (.aload_n 0, 1) := by decide +kernel
theorem dX8_sinks_51 : decode cX8_sinks 51 = .ok (.getfield 39, 3) := by decide +kernel
theorem dX8_sinks_54 : decode cX8_sinks 54 = .ok (.iload_n 1, 1) := by decide +kernel
theorem dX8_sinks_55 : decode cX8_sinks 55 = .ok (.iaload, 1) := by decide +kernel
theorem dX8_sinks_56 : decode cX8_sinks 56 = .ok (.if_icmp .ge 59, 3) := by decide +kernel
theorem dX8_sinks_59 : decode cX8_sinks 59 = .ok (.aload_n 0, 1) := by decide +kernel
theorem dX8_sinks_60 : decode cX8_sinks 60 = .ok (.getfield 42, 3) := by decide +kernel
theorem dX8_sinks_63 : decode cX8_sinks 63 = .ok (.iload_n 1, 1) := by decide +kernel
theorem dX8_sinks_64 : decode cX8_sinks 64 = .ok (.iaload, 1) := by decide +kernel
theorem dX8_sinks_65 : decode cX8_sinks 65 = .ok (.ifCond .le 50, 3) := by decide +kernel
theorem dX8_sinks_68 : decode cX8_sinks 68 = .ok (.aload_n 0, 1) := by decide +kernel
theorem dX8_sinks_69 : decode cX8_sinks 69 = .ok (.getfield 42, 3) := by decide +kernel
theorem dX8_sinks_72 : decode cX8_sinks 72 = .ok (.iload_n 1, 1) := by decide +kernel
theorem dX8_sinks_73 : decode cX8_sinks 73 = .ok (.dup2, 1) := by decide +kernel
theorem dX8_sinks_74 : decode cX8_sinks 74 = .ok (.iaload, 1) := by decide +kernel
theorem dX8_sinks_75 : decode cX8_sinks 75 = .ok (.iconst 1, 1) := by decide +kernel
theorem dX8_sinks_76 : decode cX8_sinks 76 = .ok (.isub, 1) := by decide +kernel
theorem dX8_sinks_77 : decode cX8_sinks 77 = .ok (.iastore, 1) := by decide +kernel
theorem dX8_sinks_78 : decode cX8_sinks 78 = .ok (.aload_n 0, 1) := by decide +kernel
theorem dX8_sinks_79 : decode cX8_sinks 79 = .ok (.getfield 48, 3) := by decide +kernel
theorem dX8_sinks_82 : decode cX8_sinks 82 = .ok (.iload_n 1, 1) := by decide +kernel
theorem dX8_sinks_83 : decode cX8_sinks 83 = .ok (.aload_n 0, 1) := by decide +kernel
theorem dX8_sinks_84 : decode cX8_sinks 84 = .ok (.getfield 42, 3) := by decide +kernel
theorem dX8_sinks_87 : decode cX8_sinks 87 = .ok (.iload_n 1, 1) := by decide +kernel
theorem dX8_sinks_88 : decode cX8_sinks 88 = .ok (.iaload, 1) := by decide +kernel
theorem dX8_sinks_89 : decode cX8_sinks 89 = .ok (.ifCond .ne 19, 3) := by decide +kernel
theorem dX8_sinks_92 : decode cX8_sinks 92 = .ok (.aload_n 0, 1) := by decide +kernel
theorem dX8_sinks_93 : decode cX8_sinks 93 = .ok (.getfield 48, 3) := by decide +kernel
theorem dX8_sinks_96 : decode cX8_sinks 96 = .ok (.iload_n 1, 1) := by decide +kernel
theorem dX8_sinks_97 : decode cX8_sinks 97 = .ok (.iaload, 1) := by decide +kernel
theorem dX8_sinks_98 : decode cX8_sinks 98 = .ok (.ifCond .ge 10, 3) := by decide +kernel
theorem dX8_sinks_101 : decode cX8_sinks 101 = .ok (.aload_n 0, 1) := by decide +kernel
theorem dX8_sinks_102 : decode cX8_sinks 102 = .ok (.getfield 163, 3) := by decide +kernel
theorem dX8_sinks_105 : decode cX8_sinks 105 = .ok (.goto 9, 3) := by decide +kernel
theorem dX8_sinks_108 : decode cX8_sinks 108 = .ok (.aload_n 0, 1) := by decide +kernel
theorem dX8_sinks_109 : decode cX8_sinks 109 = .ok (.getfield 48, 3) := by decide +kernel
theorem dX8_sinks_112 : decode cX8_sinks 112 = .ok (.iload_n 1, 1) := by decide +kernel
theorem dX8_sinks_113 : decode cX8_sinks 113 = .ok (.iaload, 1) := by decide +kernel
theorem dX8_sinks_114 : decode cX8_sinks 114 = .ok (.iastore, 1) := by decide +kernel
theorem dX8_sinks_115 : decode cX8_sinks 115 = .ok (.iinc 1 1, 3) := by decide +kernel
theorem dX8_sinks_118 : decode cX8_sinks 118 = .ok (.goto (-116), 3) := by decide +kernel
theorem dX8_sinks_121 : decode cX8_sinks 121 = .ok (.return_, 1) := by decide +kernel
set_option maxRecDepth 20000 in
theorem ggX8_bareCells_X8_isInside : GoodIn wsX8_bareCells wsX8_isInside := goodIn_r _ [6, 7, 8, 9, 10, 11, 5, 12, 13, 14, 15, 16, 21, 22, 23, 24, 25, 26, 27, 28, 29, 30, 31, 32, 33, 34, 35, 36, 37, 38, 39, 40, 41, 42, 43, 44, 45, 46, 47, 48, 49, 50, 51, 52, 53, 54, 55, 56, 57, 58, 59, 60, 61, 62, 63, 64, 65, 66, 67, 68, 69, 70, 71, 72, 73, 74, 75, 76] (by decide +kernel) (by decide +kernel)
set_option maxRecDepth 20000 in
theorem gX8_bareCells_X8_isInside : GoodIn wsX8_bareCells (wsV RX8 226 RX8 yX8_isInside wsX8_isInside) := goodIn_app (goodIn_of _ (by decide +kernel)) ggX8_bareCells_X8_isInside
set_option maxRecDepth 20000 in
theorem ggX8_bareCells_X8_isOutside : GoodIn wsX8_bareCells wsX8_isOutside := goodIn_r _ [20, 7, 8, 9, 10, 11, 5, 12, 13, 14, 15, 16, 21, 22, 23, 24, 25, 26, 27, 28, 29, 30, 31, 32, 33, 34, 35, 36, 37, 38, 39, 40, 41, 42, 43, 44, 45, 46, 47, 48, 49, 50, 51, 52, 53, 54, 55, 56, 57, 58, 59, 60, 61, 62, 63, 64, 65, 66, 67, 68, 69, 70, 71, 72, 73, 74, 75, 76] (by decide +kernel) (by decide +kernel)
set_option maxRecDepth 20000 in
theorem gX8_bareCells_X8_isOutside : GoodIn wsX8_bareCells (wsV RX8 196 RX8 yX8_isOutside wsX8_isOutside) := goodIn_app (goodIn_of _ (by decide +kernel)) ggX8_bareCells_X8_isOutside
theorem dX8_bareCells_0 : decode cX8_bareCells 0 = .ok (.iconst 0, 1) := by decide +kernel
theorem dX8_bareCells_1 : decode cX8_bareCells 1 = .ok (.istore_n 1, 1) := by decide +kernel
theorem dX8_bareCells_2 : decode cX8_bareCells 2 = .ok (.iconst 0, 1) := by decide +kernel
theorem dX8_bareCells_3 : decode cX8_bareCells 3 = .ok (.istore_n 2, 1) := by decide +kernel
theorem dX8_bareCells_4 : decode cX8_bareCells 4 = .ok (.iload_n 2, 1) := by decide +kernel
theorem dX8_bareCells_5 : decode cX8_bareCells 5 = .ok (.bipush 64, 2) := by decide +kernel
theorem dX8_bareCells_7 : decode cX8_bareCells 7 = .ok (.if_icmp .ge 42, 3) := by decide +kernel
theorem dX8_bareCells_10 : decode cX8_bareCells 10 = .ok (.iload_n 1, 1) := by decide +kernel
theorem dX8_bareCells_11 : decode cX8_bareCells 11 = .ok (.aload_n 0, 1) := by decide +kernel
theorem dX8_bareCells_12 : decode cX8_bareCells 12 = .ok (.iload_n 2, 1) := by decide +kernel
theorem dX8_bareCells_13 : decode cX8_bareCells 13 = .ok (.invokevirtual 226, 3) := by decide +kernel
theorem dX8_bareCells_16 : decode cX8_bareCells 16 = .ok (.ifCond .eq 24, 3) := by decide +kernel
theorem dX8_bareCells_19 : decode cX8_bareCells 19 = .ok (.aload_n 0, 1) := by decide +kernel
theorem dX8_bareCells_20 : decode cX8_bareCells 20 = .ok (.iload_n 2, 1) := by decide +kernel
theorem dX8_bareCells_21 : decode cX8_bareCells 21 = .ok (.invokevirtual 196, 3) := by decide +kernel
theorem dX8_bareCells_24 : decode cX8_bareCells 24 = .ok (.ifCond .eq 16, 3) := by decide +kernel
theorem dX8_bareCells_27 : decode cX8_bareCells 27 = .ok (.aload_n 0, 1) := by decide +kernel
theorem dX8_bareCells_28 : decode cX8_bareCells 28 = .ok (.getfield 42, 3) := by decide +kernel
theorem dX8_bareCells_31 : decode cX8_bareCells 31 = .ok (.iload_n 2, 1) := by decide +kernel
theorem dX8_bareCells_32 : decode cX8_bareCells 32 = .ok (.iaload, 1) := by decide +kernel
theorem dX8_bareCells_33 : decode cX8_bareCells 33 = .ok (.ifCond .ne 7, 3) := by decide +kernel
theorem dX8_bareCells_36 : decode cX8_bareCells 36 = .ok (.iconst 1, 1) := by decide +kernel
theorem dX8_bareCells_37 : decode cX8_bareCells 37 = .ok (.goto 4, 3) := by decide +kernel
theorem dX8_bareCells_40 : decode cX8_bareCells 40 = .ok (.iconst 0, 1) := by decide +kernel
