set_option maxRecDepth 20000 in
theorem ggX8_bars_X8_mastBefore : GoodIn wsX8_bars wsX8_mastBefore := goodIn_r _ [23, 12, 46, 47, 48, 49, 50, 51, 52, 53, 54, 55, 56, 57, 58, 59, 60, 61, 62, 63, 64, 65, 66, 67, 68, 69, 70, 71, 72] (by decide +kernel) (by decide +kernel)
set_option maxRecDepth 20000 in
theorem gX8_bars_X8_mastBefore : GoodIn wsX8_bars (wsV RX8 136 RX8 yX8_mastBefore wsX8_mastBefore) := goodIn_app (goodIn_of _ (by decide +kernel)) ggX8_bars_X8_mastBefore
set_option maxRecDepth 20000 in
theorem ggX8_bars_X8_cutOf : GoodIn wsX8_bars wsX8_cutOf := goodIn_r _ [27, 28, 29, 30, 9, 31, 32, 33, 34, 35, 36, 37, 1, 38, 39, 40, 41, 42, 43, 44, 45, 46, 47, 48, 49, 50, 51, 52, 53, 54, 55, 56, 57, 58, 59, 60, 61, 62, 63, 64, 65, 66, 67, 68, 69, 70, 71, 72] (by decide +kernel) (by decide +kernel)
set_option maxRecDepth 20000 in
theorem gX8_bars_X8_cutOf : GoodIn wsX8_bars (wsV RX8 174 RX8 yX8_cutOf wsX8_cutOf) := goodIn_app (goodIn_of _ (by decide +kernel)) ggX8_bars_X8_cutOf
theorem dX8_bars_0 : decode cX8_bars 0 = .ok (.aload_n 0, 1) := by decide +kernel
theorem dX8_bars_1 : decode cX8_bars 1 = .ok (.invokevirtual 102, 3) := by decide +kernel
theorem dX8_bars_4 : decode cX8_bars 4 = .ok (.iconst 1, 1) := by decide +kernel
theorem dX8_bars_5 : decode cX8_bars 5 = .ok (.isub, 1) := by decide +kernel
theorem dX8_bars_6 : decode cX8_bars 6 = .ok (.istore 4, 2) := by decide +kernel
theorem dX8_bars_8 : decode cX8_bars 8 = .ok (.iload_n 1, 1) := by decide +kernel
theorem dX8_bars_9 : decode cX8_bars 9 = .ok (.iconst 0, 1) := by decide +kernel
theorem dX8_bars_10 : decode cX8_bars 10 = .ok (.iload 4, 2) := by decide +kernel
theorem dX8_bars_12 : decode cX8_bars 12 = .ok (.iconst 1, 1) := by decide +kernel
theorem dX8_bars_13 : decode cX8_bars 13 = .ok (.isub, 1) := by decide +kernel
theorem dX8_bars_14 : decode cX8_bars 14 = .ok (.invokestatic 79, 3) := by decide +kernel
theorem dX8_bars_17 : decode cX8_bars 17 = .ok (.ifCond .eq 15, 3) := by decide +kernel
theorem dX8_bars_20 : decode cX8_bars 20 = .ok (.iload_n 2, 1) := by decide +kernel
theorem dX8_bars_21 : decode cX8_bars 21 = .ok (.iload_n 1, 1) := by decide +kernel
theorem dX8_bars_22 : decode cX8_bars 22 = .ok (.iload 4, 2) := by decide +kernel
theorem dX8_bars_24 : decode cX8_bars 24 = .ok (.iconst 1, 1) := by decide +kernel
theorem dX8_bars_25 : decode cX8_bars 25 = .ok (.isub, 1) := by decide +kernel
theorem dX8_bars_26 : decode cX8_bars 26 = .ok (.invokestatic 79, 3) := by decide +kernel
theorem dX8_bars_29 : decode cX8_bars 29 = .ok (.ifCond .ne 5, 3) := by decide +kernel
theorem dX8_bars_32 : decode cX8_bars 32 = .ok (.iconst (-1), 1) := by decide +kernel
theorem dX8_bars_33 : decode cX8_bars 33 = .ok (.ireturn, 1) := by decide +kernel
theorem dX8_bars_34 : decode cX8_bars 34 = .ok (.iload_n 3, 1) := by decide +kernel
theorem dX8_bars_35 : decode cX8_bars 35 = .ok (.bipush 100, 2) := by decide +kernel
theorem dX8_bars_37 : decode cX8_bars 37 = .ok (.sipush 20000, 3) := by decide +kernel
theorem dX8_bars_40 : decode cX8_bars 40 = .ok (.invokestatic 79, 3) := by decide +kernel
theorem dX8_bars_43 : decode cX8_bars 43 = .ok (.ifCond .ne 6, 3) := by decide +kernel
theorem dX8_bars_46 : decode cX8_bars 46 = .ok (.bipush (-2), 2) := by decide +kernel
theorem dX8_bars_48 : decode cX8_bars 48 = .ok (.ireturn, 1) := by decide +kernel
theorem dX8_bars_49 : decode cX8_bars 49 = .ok (.iload_n 2, 1) := by decide +kernel
theorem dX8_bars_50 : decode cX8_bars 50 = .ok (.iload_n 1, 1) := by decide +kernel
theorem dX8_bars_51 : decode cX8_bars 51 = .ok (.isub, 1) := by decide +kernel
theorem dX8_bars_52 : decode cX8_bars 52 = .ok (.iconst 1, 1) := by decide +kernel
theorem dX8_bars_53 : decode cX8_bars 53 = .ok (.iadd, 1) := by decide +kernel
theorem dX8_bars_54 : decode cX8_bars 54 = .ok (.aload_n 0, 1) := by decide +kernel
theorem dX8_bars_55 : decode cX8_bars 55 = .ok (.getfield 55, 3) := by decide +kernel
theorem dX8_bars_58 : decode cX8_bars 58 = .ok (.imul, 1) := by decide +kernel
theorem dX8_bars_59 : decode cX8_bars 59 = .ok (.istore 5, 2) := by decide +kernel
theorem dX8_bars_61 : decode cX8_bars 61 = .ok (.iload 5, 2) := by decide +kernel
theorem dX8_bars_63 : decode cX8_bars 63 = .ok (.bipush 14, 2) := by decide +kernel
theorem dX8_bars_65 : decode cX8_bars 65 = .ok (.if_icmp .le 6, 3) := by decide +kernel
theorem dX8_bars_68 : decode cX8_bars 68 = .ok (.bipush (-4), 2) := by decide +kernel
theorem dX8_bars_70 : decode cX8_bars 70 = .ok (.ireturn, 1) := by decide +kernel
theorem dX8_bars_71 : decode cX8_bars 71 = .ok (.iconst 1, 1) := by decide +kernel
theorem dX8_bars_72 : decode cX8_bars 72 = .ok (.istore 6, 2) := by decide +kernel
theorem dX8_bars_74 : decode cX8_bars 74 = .ok (.iconst 0, 1) := by decide +kernel
theorem dX8_bars_75 : decode cX8_bars 75 = .ok (.istore 7, 2) := by decide +kernel
theorem dX8_bars_77 : decode cX8_bars 77 = .ok (.iload 7, 2) := by decide +kernel
theorem dX8_bars_79 : decode cX8_bars 79 = .ok (.iload 5, 2) := by decide +kernel
theorem dX8_bars_81 : decode cX8_bars 81 = .ok (.if_icmp .ge 88, 3) := by decide +kernel
theorem dX8_bars_84 : decode cX8_bars 84 = .ok (.aload_n 0, 1) := by decide +kernel
theorem dX8_bars_85 : decode cX8_bars 85 = .ok (.iload_n 1, 1) := by decide +kernel
theorem dX8_bars_86 : decode cX8_bars 86 = .ok (.iload 7, 2) := by decide +kernel
theorem dX8_bars_88 : decode cX8_bars 88 = .ok (.aload_n 0, 1) := by decide +kernel
theorem dX8_bars_89 : decode cX8_bars 89 = .ok (.getfield 55, 3) := by decide +kernel
theorem dX8_bars_92 : decode cX8_bars 92 = .ok (.idiv, 1) := by decide +kernel
theorem dX8_bars_93 : decode cX8_bars 93 = .ok (.iadd, 1) := by decide +kernel
theorem dX8_bars_94 : decode cX8_bars 94 = .ok (.invokevirtual 147, 3) := by decide +kernel
theorem dX8_bars_97 : decode cX8_bars 97 = .ok (.istore 8, 2) := by decide +kernel
theorem dX8_bars_99 : decode cX8_bars 99 = .ok (.aload_n 0, 1) := by decide +kernel
theorem dX8_bars_100 : decode cX8_bars 100 = .ok (.getfield 70, 3) := by decide +kernel
theorem dX8_bars_103 : decode cX8_bars 103 = .ok (.iload 7, 2) := by decide +kernel
theorem dX8_bars_105 : decode cX8_bars 105 = .ok (.aload_n 0, 1) := by decide +kernel
theorem dX8_bars_106 : decode cX8_bars 106 = .ok (.aload_n 0, 1) := by decide +kernel
theorem dX8_bars_107 : decode cX8_bars 107 = .ok (.getfield 27, 3) := by decide +kernel
theorem dX8_bars_110 : decode cX8_bars 110 = .ok (.iload 8, 2) := by decide +kernel
theorem dX8_bars_112 : decode cX8_bars 112 = .ok (.iaload, 1) := by decide +kernel
theorem dX8_bars_113 : decode cX8_bars 113 = .ok (.aload_n 0, 1) := by decide +kernel
theorem dX8_bars_114 : decode cX8_bars 114 = .ok (.getfield 27, 3) := by decide +kernel
theorem dX8_bars_117 : decode cX8_bars 117 = .ok (.aload_n 0, 1) := by decide +kernel
theorem dX8_bars_118 : decode cX8_bars 118 = .ok (.iload 8, 2) := by decide +kernel
theorem dX8_bars_120 : decode cX8_bars 120 = .ok (.invokevirtual 136, 3) := by decide +kernel
theorem dX8_bars_123 : decode cX8_bars 123 = .ok (.iaload, 1) := by decide +kernel
theorem dX8_bars_124 : decode cX8_bars 124 = .ok (.isub, 1) := by decide +kernel
theorem dX8_bars_125 : decode cX8_bars 125 = .ok (.iload 7, 2) := by decide +kernel
theorem dX8_bars_127 : decode cX8_bars 127 = .ok (.aload_n 0, 1) := by decide +kernel
theorem dX8_bars_128 : decode cX8_bars 128 = .ok (.getfield 55, 3) := by decide +kernel
theorem dX8_bars_131 : decode cX8_bars 131 = .ok (.irem, 1) := by decide +kernel
theorem dX8_bars_132 : decode cX8_bars 132 = .ok (.invokevirtual 174, 3) := by decide +kernel
theorem dX8_bars_135 : decode cX8_bars 135 = .ok (.iastore, 1) := by decide +kernel
theorem dX8_bars_136 : decode cX8_bars 136 = .ok (.iload 6, 2) := by decide +kernel
theorem dX8_bars_138 : decode cX8_bars 138 = .ok (.ifCond .eq 22, 3) := by decide +kernel
theorem dX8_bars_141 : decode cX8_bars 141 = .ok (.aload_n 0, 1) := by decide +kernel
theorem dX8_bars_142 : decode cX8_bars 142 = .ok (.getfield 70, 3) := by decide +kernel
theorem dX8_bars_145 : decode cX8_bars 145 = .ok (.iload 7, 2) := by decide +kernel
theorem dX8_bars_147 : decode cX8_bars 147 = .ok (.iaload, 1) := by decide +kernel
theorem dX8_bars_148 : decode cX8_bars 148 = .ok (.iconst 1, 1) := by decide +kernel
theorem dX8_bars_149 : decode cX8_bars 149 = .ok (.iload_n 3, 1) := by decide +kernel
theorem dX8_bars_150 : decode cX8_bars 150 = .ok (.invokestatic 79, 3) := by decide +kernel
theorem dX8_bars_153 : decode cX8_bars 153 = .ok (.ifCond .eq 7, 3) := by decide +kernel
theorem dX8_bars_156 : decode cX8_bars 156 = .ok (.iconst 1, 1) := by decide +kernel
theorem dX8_bars_157 : decode cX8_bars 157 = .ok (.goto 4, 3) := by decide +kernel
theorem dX8_bars_160 : decode cX8_bars 160 = .ok (.iconst 0, 1) := by decide +kernel
theorem dX8_bars_161 : decode cX8_bars 161 = .ok (.istore 6, 2) := by decide +kernel
theorem dX8_bars_163 : decode cX8_bars 163 = .ok (.iinc 7 1, 3) := by decide +kernel
theorem dX8_bars_166 : decode cX8_bars 166 = .ok (.goto (-89), 3) := by decide +kernel
theorem dX8_bars_169 : decode cX8_bars 169 = .ok (.iload 6, 2) := by decide +kernel
theorem dX8_bars_171 : decode cX8_bars 171 = .ok (.ifCond .ne 6, 3) := by decide +kernel
theorem dX8_bars_174 : decode cX8_bars 174 = .ok (.bipush (-5), 2) := by decide +kernel
theorem dX8_bars_176 : decode cX8_bars 176 = .ok (.ireturn, 1) := by decide +kernel
theorem dX8_bars_177 : decode cX8_bars 177 = .ok (.aload_n 0, 1) := by decide +kernel
theorem dX8_bars_178 : decode cX8_bars 178 = .ok (.getfield 73, 3) := by decide +kernel
theorem dX8_bars_181 : decode cX8_bars 181 = .ok (.iconst 0, 1) := by decide +kernel
theorem dX8_bars_182 : decode cX8_bars 182 = .ok (.iconst 0, 1) := by decide +kernel
theorem dX8_bars_183 : decode cX8_bars 183 = .ok (.iastore, 1) := by decide +kernel
theorem dX8_bars_184 : decode cX8_bars 184 = .ok (.aload_n 0, 1) := by decide +kernel
theorem dX8_bars_185 : decode cX8_bars 185 = .ok (.getfield 76, 3) := by decide +kernel
theorem dX8_bars_188 : decode cX8_bars 188 = .ok (.iconst 0, 1) := by decide +kernel
theorem dX8_bars_189 : decode cX8_bars 189 = .ok (.iload_n 3, 1) := by decide +kernel
theorem dX8_bars_190 : decode cX8_bars 190 = .ok (.iastore, 1) := by decide +kernel
theorem dX8_bars_191 : decode cX8_bars 191 = .ok (.iconst 1, 1) := by decide +kernel
theorem dX8_bars_192 : decode cX8_bars 192 = .ok (.istore 7, 2) := by decide +kernel
theorem dX8_bars_194 : decode cX8_bars 194 = .ok (.iload 7, 2) := by decide +kernel
theorem dX8_bars_196 : decode cX8_bars 196 = .ok (.iconst 1, 1) := by decide +kernel
theorem dX8_bars_197 : decode cX8_bars 197 = .ok (.iload 5, 2) := by decide +kernel
theorem dX8_bars_199 : decode cX8_bars 199 = .ok (.ishl, 1) := by decide +kernel
theorem dX8_bars_200 : decode cX8_bars 200 = .ok (.if_icmp .ge 202, 3) := by decide +kernel
theorem dX8_bars_203 : decode cX8_bars 203 = .ok (.aload_n 0, 1) := by decide +kernel
theorem dX8_bars_204 : decode cX8_bars 204 = .ok (.getfield 73, 3) := by decide +kernel
theorem dX8_bars_207 : decode cX8_bars 207 = .ok (.iload 7, 2) := by decide +kernel
theorem dX8_bars_209 : decode cX8_bars 209 = .ok (.bipush 99, 2) := by decide +kernel
theorem dX8_bars_211 : decode cX8_bars 211 = .ok (.iastore, 1) := by decide +kernel
theorem dX8_bars_212 : decode cX8_bars 212 = .ok (.aload_n 0, 1) := by decide +kernel
theorem dX8_bars_213 : decode cX8_bars 213 = .ok (.getfield 76, 3) := by decide +kernel
theorem dX8_bars_216 : decode cX8_bars 216 = .ok (.iload 7, 2) := by decide +kernel
theorem dX8_bars_218 : decode cX8_bars 218 = .ok (.iconst 0, 1) := by decide +kernel
theorem dX8_bars_219 : decode cX8_bars 219 = .ok (.iastore, 1) := by decide +kernel
theorem dX8_bars_220 : decode cX8_bars 220 = .ok (.iconst 0, 1) := by decide +kernel
theorem dX8_bars_221 : decode cX8_bars 221 = .ok (.istore 8, 2) := by decide +kernel
theorem dX8_bars_223 : decode cX8_bars 223 = .ok (.iload 8, 2) := by decide +kernel
theorem dX8_bars_225 : decode cX8_bars 225 = .ok (.iload 5, 2) := by decide +kernel
theorem dX8_bars_227 : decode cX8_bars 227 = .ok (.if_icmp .ge 169, 3) := by decide +kernel
theorem dX8_bars_230 : decode cX8_bars 230 = .ok (.iload 7, 2) := by decide +kernel
theorem dX8_bars_232 : decode cX8_bars 232 = .ok (.iload 8, 2) := by decide +kernel
theorem dX8_bars_234 : decode cX8_bars 234 = .ok (.ishr, 1) := by decide +kernel
theorem dX8_bars_235 : decode cX8_bars 235 = .ok (.iconst 1, 1) := by decide +kernel
theorem dX8_bars_236 : decode cX8_bars 236 = .ok (.iand, 1) := by decide +kernel
theorem dX8_bars_237 : decode cX8_bars 237 = .ok (.iconst 1, 1) := by decide +kernel
theorem dX8_bars_238 : decode cX8_bars 238 = .ok (.if_icmp .ne 152, 3) := by decide +kernel
theorem dX8_bars_241 : decode cX8_bars 241 = .ok (.iload 7, 2) := by decide +kernel
theorem dX8_bars_243 : decode cX8_bars 243 = .ok (.iconst 1, 1) := by decide +kernel
theorem dX8_bars_244 : decode cX8_bars 244 = .ok (.iload 8, 2) := by decide +kernel
theorem dX8_bars_246 : decode cX8_bars 246 = .ok (.ishl, 1) := by decide +kernel
theorem dX8_bars_247 : decode cX8_bars 247 = .ok (.iconst (-1), 1) := by decide +kernel
theorem dX8_bars_248 : decode cX8_bars 248 = .ok (.ixor, 1) := by decide +kernel
theorem dX8_bars_249 : decode cX8_bars 249 = .ok (.iand, 1) := by decide +kernel
theorem dX8_bars_250 : decode cX8_bars 250 = .ok (.istore 9, 2) := by decide +kernel
theorem dX8_bars_252 : decode cX8_bars 252 = .ok (.aload_n 0, 1) := by decide +kernel
theorem dX8_bars_253 : decode cX8_bars 253 = .ok (.getfield 76, 3) := by decide +kernel
theorem dX8_bars_256 : decode cX8_bars 256 = .ok (.iload 9, 2) := by decide +kernel
theorem dX8_bars_258 : decode cX8_bars 258 = .ok (.iaload, 1) := by decide +kernel
theorem dX8_bars_259 : decode cX8_bars 259 = .ok (.aload_n 0, 1) := by decide +kernel
theorem dX8_bars_260 : decode cX8_bars 260 = .ok (.getfield 70, 3) := by decide +kernel
theorem dX8_bars_263 : decode cX8_bars 263 = .ok (.iload 8, 2) := by decide +kernel
theorem dX8_bars_265 : decode cX8_bars 265 = .ok (.iaload, 1) := by decide +kernel
theorem dX8_bars_266 : decode cX8_bars 266 = .ok (.iadd, 1) := by decide +kernel
theorem dX8_bars_267 : decode cX8_bars 267 = .ok (.iload_n 3, 1) := by decide +kernel
theorem dX8_bars_268 : decode cX8_bars 268 = .ok (.if_icmp .gt 7, 3) := by decide +kernel
theorem dX8_bars_271 : decode cX8_bars 271 = .ok (.iconst 1, 1) := by decide +kernel
theorem dX8_bars_272 : decode cX8_bars 272 = .ok (.goto 4, 3) := by decide +kernel
theorem dX8_bars_275 : decode cX8_bars 275 = .ok (.iconst 0, 1) := by decide +kernel
theorem dX8_bars_276 : decode cX8_bars 276 = .ok (.istore 10, 2) := by decide +kernel
theorem dX8_bars_278 : decode cX8_bars 278 = .ok (.iload 10, 2) := by decide +kernel
theorem dX8_bars_280 : decode cX8_bars 280 = .ok (.ifCond .eq 13, 3) := by decide +kernel
theorem dX8_bars_283 : decode cX8_bars 283 = .ok (.aload_n 0, 1) := by decide +kernel
theorem dX8_bars_284 : decode cX8_bars 284 = .ok (.getfield 73, 3) := by decide +kernel
theorem dX8_bars_287 : decode cX8_bars 287 = .ok (.iload 9, 2) := by decide +kernel
theorem dX8_bars_289 : decode cX8_bars 289 = .ok (.iaload, 1) := by decide +kernel
theorem dX8_bars_290 : decode cX8_bars 290 = .ok (.goto 12, 3) := by decide +kernel
theorem dX8_bars_293 : decode cX8_bars 293 = .ok (.aload_n 0, 1) := by decide +kernel
theorem dX8_bars_294 : decode cX8_bars 294 = .ok (.getfield 73, 3) := by decide +kernel
theorem dX8_bars_297 : decode cX8_bars 297 = .ok (.iload 9, 2) := by decide +kernel
theorem dX8_bars_299 : decode cX8_bars 299 = .ok (.iaload, 1) := by decide +kernel
theorem dX8_bars_300 : decode cX8_bars 300 = .ok (.iconst 1, 1) := by decide +kernel
theorem dX8_bars_301 : decode cX8_bars 301 = .ok (.iadd, 1) := by decide +kernel
theorem dX8_bars_302 : decode cX8_bars 302 = .ok (.istore 11, 2) := by decide +kernel
theorem dX8_bars_304 : decode cX8_bars 304 = .ok (.iload 10, 2) := by decide +kernel
theorem dX8_bars_306 : decode cX8_bars 306 = .ok (.ifCond .eq 21, 3) := by decide +kernel
theorem dX8_bars_309 : decode cX8_bars 309 = .ok (.aload_n 0, 1) := by decide +kernel
theorem dX8_bars_310 : decode cX8_bars 310 = .ok (.getfield 76, 3) := by decide +kernel
theorem dX8_bars_313 : decode cX8_bars 313 = .ok (.iload 9, 2) := by decide +kernel
theorem dX8_bars_315 : decode cX8_bars 315 = .ok (.iaload, 1) := by decide +kernel
theorem dX8_bars_316 : decode cX8_bars 316 = .ok (.aload_n 0, 1) := by decide +kernel
theorem dX8_bars_317 : decode cX8_bars 317 = .ok (.getfield 70, 3) := by decide +kernel
theorem dX8_bars_320 : decode cX8_bars 320 = .ok (.iload 8, 2) := by decide +kernel
theorem dX8_bars_322 : decode cX8_bars 322 = .ok (.iaload, 1) := by decide +kernel
theorem dX8_bars_323 : decode cX8_bars 323 = .ok (.iadd, 1) := by decide +kernel
theorem dX8_bars_324 : decode cX8_bars 324 = .ok (.goto 10, 3) := by decide +kernel
theorem dX8_bars_327 : decode cX8_bars 327 = .ok (.aload_n 0, 1) := by decide +kernel
theorem dX8_bars_328 : decode cX8_bars 328 = .ok (.getfield 70, 3) := by decide +kernel
theorem dX8_bars_331 : decode cX8_bars 331 = .ok (.iload 8, 2) := by decide +kernel
theorem dX8_bars_333 : decode cX8_bars 333 = .ok (.iaload, 1) := by decide +kernel
theorem dX8_bars_334 : decode cX8_bars 334 = .ok (.istore 12, 2) := by decide +kernel
theorem dX8_bars_336 : decode cX8_bars 336 = .ok (.iload 11, 2) := by decide +kernel
theorem dX8_bars_338 : decode cX8_bars 338 = .ok (.aload_n 0, 1) := by decide +kernel
theorem dX8_bars_339 : decode cX8_bars 339 = .ok (.getfield 73, 3) := by decide +kernel
theorem dX8_bars_342 : decode cX8_bars 342 = .ok (.iload 7, 2) := by decide +kernel
theorem dX8_bars_344 : decode cX8_bars 344 = .ok (.iaload, 1) := by decide +kernel
theorem dX8_bars_345 : decode cX8_bars 345 = .ok (.if_icmp .lt 27, 3) := by decide +kernel
theorem dX8_bars_348 : decode cX8_bars 348 = .ok (.iload 11, 2) := by decide +kernel
theorem dX8_bars_350 : decode cX8_bars 350 = .ok (.aload_n 0, 1) := by decide +kernel
theorem dX8_bars_351 : decode cX8_bars 351 = .ok (.getfield 73, 3) := by decide +kernel
theorem dX8_bars_354 : decode cX8_bars 354 = .ok (.iload 7, 2) := by decide +kernel
theorem dX8_bars_356 : decode cX8_bars 356 = .ok (.iaload, 1) := by decide +kernel
theorem dX8_bars_357 : decode cX8_bars 357 = .ok (.if_icmp .ne 33, 3) := by decide +kernel
theorem dX8_bars_360 : decode cX8_bars 360 = .ok (.iload 12, 2) := by decide +kernel
theorem dX8_bars_362 : decode cX8_bars 362 = .ok (.aload_n 0, 1) := by decide +kernel
theorem dX8_bars_363 : decode cX8_bars 363 = .ok (.getfield 76, 3) := by decide +kernel
theorem dX8_bars_366 : decode cX8_bars 366 = .ok (.iload 7, 2) := by decide +kernel
theorem dX8_bars_368 : decode cX8_bars 368 = .ok (.iaload, 1) := by decide +kernel
theorem dX8_bars_369 : decode cX8_bars 369 = .ok (.if_icmp .ge 21, 3) := by decide +kernel
theorem dX8_bars_372 : decode cX8_bars 372 = .ok (.aload_n 0, 1) := by decide +kernel
theorem dX8_bars_373 : decode cX8_bars 373 = .ok (.getfield 73, 3) := by decide +kernel
theorem dX8_bars_376 : decode cX8_bars 376 = .ok (.iload 7, 2) := by decide +kernel
theorem dX8_bars_378 : decode cX8_bars 378 = .ok (.iload 11, 2) := by decide +kernel
theorem dX8_bars_380 : decode cX8_bars 380 = .ok (.iastore, 1) := by decide +kernel
theorem dX8_bars_381 : decode cX8_bars 381 = .ok (.aload_n 0, 1) := by decide +kernel
theorem dX8_bars_382 : decode cX8_bars 382 = .ok (.getfield 76, 3) := by decide +kernel
theorem dX8_bars_385 : decode cX8_bars 385 = .ok (.iload 7, 2) := by decide +kernel
theorem dX8_bars_387 : decode cX8_bars 387 = .ok (.iload 12, 2) := by decide +kernel
theorem dX8_bars_389 : decode cX8_bars 389 = .ok (.iastore, 1) := by decide +kernel
theorem dX8_bars_390 : decode cX8_bars 390 = .ok (.iinc 8 1, 3) := by decide +kernel
theorem dX8_bars_393 : decode cX8_bars 393 = .ok (.goto (-170), 3) := by decide +kernel
theorem dX8_bars_396 : decode cX8_bars 396 = .ok (.iinc 7 1, 3) := by decide +kernel
theorem dX8_bars_399 : decode cX8_bars 399 = .ok (.goto (-205), 3) := by decide +kernel
theorem dX8_bars_402 : decode cX8_bars 402 = .ok (.aload_n 0, 1) := by decide +kernel
theorem dX8_bars_403 : decode cX8_bars 403 = .ok (.getfield 73, 3) := by decide +kernel
theorem dX8_bars_406 : decode cX8_bars 406 = .ok (.iconst 1, 1) := by decide +kernel
theorem dX8_bars_407 : decode cX8_bars 407 = .ok (.iload 5, 2) := by decide +kernel
theorem dX8_bars_409 : decode cX8_bars 409 = .ok (.ishl, 1) := by decide +kernel
theorem dX8_bars_410 : decode cX8_bars 410 = .ok (.iconst 1, 1) := by decide +kernel
theorem dX8_bars_411 : decode cX8_bars 411 = .ok (.isub, 1) := by decide +kernel
theorem dX8_bars_412 : decode cX8_bars 412 = .ok (.iaload, 1) := by decide +kernel
theorem dX8_bars_413 : decode cX8_bars 413 = .ok (.ireturn, 1) := by decide +kernel
set_option maxRecDepth 20000 in
theorem ggX8_told_X8_masts : GoodIn wsX8_told wsX8_masts := goodIn_r _ [10, 2, 11, 20, 21, 22, 23, 24, 25, 26, 27, 28, 29, 30, 31, 32, 33, 34, 35, 36, 37, 38, 39, 40, 41, 42, 43, 44, 45, 46] (by decide +kernel) (by decide +kernel)
set_option maxRecDepth 20000 in
theorem gX8_told_X8_masts : GoodIn wsX8_told (wsV RX8 102 RX8 yX8_masts wsX8_masts) := goodIn_app (goodIn_of _ (by decide +kernel)) ggX8_told_X8_masts
set_option maxRecDepth 20000 in
theorem ggX8_told_X8_endOf : GoodIn wsX8_told wsX8_endOf := goodIn_r _ [15, 2, 11, 20, 21, 22, 23, 24, 25, 26, 27, 28, 29, 30, 31, 32, 33, 34, 35, 36, 37, 38, 39, 40, 41, 42, 43, 44, 45, 46] (by decide +kernel) (by decide +kernel)
set_option maxRecDepth 20000 in
theorem gX8_told_X8_endOf : GoodIn wsX8_told (wsV RX8 147 RX8 yX8_endOf wsX8_endOf) := goodIn_app (goodIn_of _ (by decide +kernel)) ggX8_told_X8_endOf
set_option maxRecDepth 20000 in
theorem ggX8_told_X8_mastBefore : GoodIn wsX8_told wsX8_mastBefore := goodIn_r _ [19, 11, 20, 21, 22, 23, 24, 25, 26, 27, 28, 29, 30, 31, 32, 33, 34, 35, 36, 37, 38, 39, 40, 41, 42, 43, 44, 45, 46] (by decide +kernel) (by decide +kernel)
set_option maxRecDepth 20000 in
theorem gX8_told_X8_mastBefore : GoodIn wsX8_told (wsV RX8 136 RX8 yX8_mastBefore wsX8_mastBefore) := goodIn_app (goodIn_of _ (by decide +kernel)) ggX8_told_X8_mastBefore
theorem dX8_told_0 : decode cX8_told 0 = .ok (.aload_n 0, 1) := by decide +kernel
theorem dX8_told_1 : decode cX8_told 1 = .ok (.invokevirtual 102, 3) := by decide +kernel
theorem dX8_told_4 : decode cX8_told 4 = .ok (.istore_n 2, 1) := by decide +kernel
theorem dX8_told_5 : decode cX8_told 5 = .ok (.iload_n 1, 1) := by decide +kernel
theorem dX8_told_6 : decode cX8_told 6 = .ok (.tableswitch 124 0 6 #[42, 47, 52, 54, 66, 71, 76], 42) := by decide +kernel
theorem dX8_told_48 : decode cX8_told 48 = .ok (.aload_n 0, 1) := by decide +kernel
theorem dX8_told_49 : decode cX8_told 49 = .ok (.getfield 86, 3) := by decide +kernel
theorem dX8_told_52 : decode cX8_told 52 = .ok (.ireturn, 1) := by decide +kernel
theorem dX8_told_53 : decode cX8_told 53 = .ok (.aload_n 0, 1) := by decide +kernel
theorem dX8_told_54 : decode cX8_told 54 = .ok (.getfield 83, 3) := by decide +kernel
theorem dX8_told_57 : decode cX8_told 57 = .ok (.ireturn, 1) := by decide +kernel
theorem dX8_told_58 : decode cX8_told 58 = .ok (.iload_n 2, 1) := by decide +kernel
theorem dX8_told_59 : decode cX8_told 59 = .ok (.ireturn, 1) := by decide +kernel
theorem dX8_told_60 : decode cX8_told 60 = .ok (.iload_n 2, 1) := by decide +kernel
theorem dX8_told_61 : decode cX8_told 61 = .ok (.ifCond .le 9, 3) := by decide +kernel
theorem dX8_told_64 : decode cX8_told 64 = .ok (.iload_n 2, 1) := by decide +kernel
theorem dX8_told_65 : decode cX8_told 65 = .ok (.iconst 1, 1) := by decide +kernel
theorem dX8_told_66 : decode cX8_told 66 = .ok (.isub, 1) := by decide +kernel
theorem dX8_told_67 : decode cX8_told 67 = .ok (.goto 4, 3) := by decide +kernel
theorem dX8_told_70 : decode cX8_told 70 = .ok (.iconst 0, 1) := by decide +kernel
theorem dX8_told_71 : decode cX8_told 71 = .ok (.ireturn, 1) := by decide +kernel
theorem dX8_told_72 : decode cX8_told 72 = .ok (.aload_n 0, 1) := by decide +kernel
theorem dX8_told_73 : decode cX8_told 73 = .ok (.getfield 55, 3) := by decide +kernel
theorem dX8_told_76 : decode cX8_told 76 = .ok (.ireturn, 1) := by decide +kernel
theorem dX8_told_77 : decode cX8_told 77 = .ok (.aload_n 0, 1) := by decide +kernel
theorem dX8_told_78 : decode cX8_told 78 = .ok (.getfield 7, 3) := by decide +kernel
theorem dX8_told_81 : decode cX8_told 81 = .ok (.ireturn, 1) := by decide +kernel
theorem dX8_told_82 : decode cX8_told 82 = .ok (.iload_n 2, 1) := by decide +kernel
theorem dX8_told_83 : decode cX8_told 83 = .ok (.iconst 1, 1) := by decide +kernel
theorem dX8_told_84 : decode cX8_told 84 = .ok (.if_icmp .le 13, 3) := by decide +kernel
theorem dX8_told_87 : decode cX8_told 87 = .ok (.aload_n 0, 1) := by decide +kernel
theorem dX8_told_88 : decode cX8_told 88 = .ok (.iload_n 2, 1) := by decide +kernel
theorem dX8_told_89 : decode cX8_told 89 = .ok (.iconst 2, 1) := by decide +kernel
theorem dX8_told_90 : decode cX8_told 90 = .ok (.isub, 1) := by decide +kernel
theorem dX8_told_91 : decode cX8_told 91 = .ok (.invokevirtual 147, 3) := by decide +kernel
theorem dX8_told_94 : decode cX8_told 94 = .ok (.goto 5, 3) := by decide +kernel
theorem dX8_told_97 : decode cX8_told 97 = .ok (.bipush (-6), 2) := by decide +kernel
theorem dX8_told_99 : decode cX8_told 99 = .ok (.istore_n 3, 1) := by decide +kernel
theorem dX8_told_100 : decode cX8_told 100 = .ok (.iload_n 3, 1) := by decide +kernel
theorem dX8_told_101 : decode cX8_told 101 = .ok (.ifCond .ge 7, 3) := by decide +kernel
theorem dX8_told_104 : decode cX8_told 104 = .ok (.iconst 0, 1) := by decide +kernel
theorem dX8_told_105 : decode cX8_told 105 = .ok (.goto 24, 3) := by decide +kernel
theorem dX8_told_108 : decode cX8_told 108 = .ok (.aload_n 0, 1) := by decide +kernel
theorem dX8_told_109 : decode cX8_told 109 = .ok (.getfield 27, 3) := by decide +kernel
theorem dX8_told_112 : decode cX8_told 112 = .ok (.iload_n 3, 1) := by decide +kernel
theorem dX8_told_113 : decode cX8_told 113 = .ok (.iaload, 1) := by decide +kernel
theorem dX8_told_114 : decode cX8_told 114 = .ok (.aload_n 0, 1) := by decide +kernel
theorem dX8_told_115 : decode cX8_told 115 = .ok (.getfield 27, 3) := by decide +kernel
theorem dX8_told_118 : decode cX8_told 118 = .ok (.aload_n 0, 1) := by decide +kernel
theorem dX8_told_119 : decode cX8_told 119 = .ok (.aload_n 0, 1) := by decide +kernel
theorem dX8_told_120 : decode cX8_told 120 = .ok (.iconst 0, 1) := by decide +kernel
theorem dX8_told_121 : decode cX8_told 121 = .ok (.invokevirtual 147, 3) := by decide +kernel
theorem dX8_told_124 : decode cX8_told 124 = .ok (.invokevirtual 136, 3) := by decide +kernel
theorem dX8_told_127 : decode cX8_told 127 = .ok (.iaload, 1) := by decide +kernel
theorem dX8_told_128 : decode cX8_told 128 = .ok (.isub, 1) := by decide +kernel
theorem dX8_told_129 : decode cX8_told 129 = .ok (.ireturn, 1) := by decide +kernel
theorem dX8_told_130 : decode cX8_told 130 = .ok (.bipush (-2), 2) := by decide +kernel
theorem dX8_told_132 : decode cX8_told 132 = .ok (.ireturn, 1) := by decide +kernel
theorem dJ9_floorDiv_f86c9_0 : decode cJ9_floorDiv_f86c9 0 = .ok (.lload_n 0, 1) := by decide +kernel
theorem dJ9_floorDiv_f86c9_1 : decode cJ9_floorDiv_f86c9 1 = .ok (.lload_n 2, 1) := by decide +kernel
theorem dJ9_floorDiv_f86c9_2 : decode cJ9_floorDiv_f86c9 2 = .ok (.ldiv, 1) := by decide +kernel
theorem dJ9_floorDiv_f86c9_3 : decode cJ9_floorDiv_f86c9 3 = .ok (.lstore 4, 2) := by decide +kernel
theorem dJ9_floorDiv_f86c9_5 : decode cJ9_floorDiv_f86c9 5 = .ok (.lload_n 0, 1) := by decide +kernel
theorem dJ9_floorDiv_f86c9_6 : decode cJ9_floorDiv_f86c9 6 = .ok (.lload_n 2, 1) := by decide +kernel
theorem dJ9_floorDiv_f86c9_7 : decode cJ9_floorDiv_f86c9 7 = .ok (.lxor, 1) := by decide +kernel
theorem dJ9_floorDiv_f86c9_8 : decode cJ9_floorDiv_f86c9 8 = .ok (.lconst 0, 1) := by decide +kernel
theorem dJ9_floorDiv_f86c9_9 : decode cJ9_floorDiv_f86c9 9 = .ok (.lcmp, 1) := by decide +kernel
theorem dJ9_floorDiv_f86c9_10 : decode cJ9_floorDiv_f86c9 10 = .ok (.ifCond .ge 17, 3) := by decide +kernel
theorem dJ9_floorDiv_f86c9_13 : decode cJ9_floorDiv_f86c9 13 = .ok (.lload 4, 2) := by decide +kernel
theorem dJ9_floorDiv_f86c9_15 : decode cJ9_floorDiv_f86c9 15 = .ok (.lload_n 2, 1) := by decide +kernel
theorem dJ9_floorDiv_f86c9_16 : decode cJ9_floorDiv_f86c9 16 = .ok (.lmul, 1) := by decide +kernel
theorem dJ9_floorDiv_f86c9_17 : decode cJ9_floorDiv_f86c9 17 = .ok (.lload_n 0, 1) := by decide +kernel
theorem dJ9_floorDiv_f86c9_18 : decode cJ9_floorDiv_f86c9 18 = .ok (.lcmp, 1) := by decide +kernel
theorem dJ9_floorDiv_f86c9_19 : decode cJ9_floorDiv_f86c9 19 = .ok (.ifCond .eq 8, 3) := by decide +kernel
theorem dJ9_floorDiv_f86c9_22 : decode cJ9_floorDiv_f86c9 22 = .ok (.lload 4, 2) := by decide +kernel
theorem dJ9_floorDiv_f86c9_24 : decode cJ9_floorDiv_f86c9 24 = .ok (.lconst 1, 1) := by decide +kernel
theorem dJ9_floorDiv_f86c9_25 : decode cJ9_floorDiv_f86c9 25 = .ok (.lsub, 1) := by decide +kernel
theorem dJ9_floorDiv_f86c9_26 : decode cJ9_floorDiv_f86c9 26 = .ok (.lreturn, 1) := by decide +kernel
theorem dJ9_floorDiv_f86c9_27 : decode cJ9_floorDiv_f86c9 27 = .ok (.lload 4, 2) := by decide +kernel
theorem dJ9_floorDiv_f86c9_29 : decode cJ9_floorDiv_f86c9 29 = .ok (.lreturn, 1) := by decide +kernel
theorem dJ9_abs_067f4_0 : decode cJ9_abs_067f4 0 = .ok (.lload_n 0, 1) := by decide +kernel
theorem dJ9_abs_067f4_1 : decode cJ9_abs_067f4 1 = .ok (.lconst 0, 1) := by decide +kernel
theorem dJ9_abs_067f4_2 : decode cJ9_abs_067f4 2 = .ok (.lcmp, 1) := by decide +kernel
theorem dJ9_abs_067f4_3 : decode cJ9_abs_067f4 3 = .ok (.ifCond .ge 8, 3) := by decide +kernel
theorem dJ9_abs_067f4_6 : decode cJ9_abs_067f4 6 = .ok (.lload_n 0, 1) := by decide +kernel
theorem dJ9_abs_067f4_7 : decode cJ9_abs_067f4 7 = .ok (.lneg, 1) := by decide +kernel
theorem dJ9_abs_067f4_8 : decode cJ9_abs_067f4 8 = .ok (.goto 4, 3) := by decide +kernel
theorem dJ9_abs_067f4_11 : decode cJ9_abs_067f4 11 = .ok (.lload_n 0, 1) := by decide +kernel
theorem dJ9_abs_067f4_12 : decode cJ9_abs_067f4 12 = .ok (.lreturn, 1) := by decide +kernel
theorem dJ9_max_7cf53_0 : decode cJ9_max_7cf53 0 = .ok (.iload_n 0, 1) := by decide +kernel
theorem dJ9_max_7cf53_1 : decode cJ9_max_7cf53 1 = .ok (.iload_n 1, 1) := by decide +kernel
theorem dJ9_max_7cf53_2 : decode cJ9_max_7cf53 2 = .ok (.if_icmp .lt 7, 3) := by decide +kernel
theorem dJ9_max_7cf53_5 : decode cJ9_max_7cf53 5 = .ok (.iload_n 0, 1) := by decide +kernel
theorem dJ9_max_7cf53_6 : decode cJ9_max_7cf53 6 = .ok (.goto 4, 3) := by decide +kernel
theorem dJ9_max_7cf53_9 : decode cJ9_max_7cf53 9 = .ok (.iload_n 1, 1) := by decide +kernel
theorem dJ9_max_7cf53_10 : decode cJ9_max_7cf53 10 = .ok (.ireturn, 1) := by decide +kernel
theorem dJ9_min_7cf53_0 : decode cJ9_min_7cf53 0 = .ok (.iload_n 0, 1) := by decide +kernel
theorem dJ9_min_7cf53_1 : decode cJ9_min_7cf53 1 = .ok (.iload_n 1, 1) := by decide +kernel
theorem dJ9_min_7cf53_2 : decode cJ9_min_7cf53 2 = .ok (.if_icmp .gt 7, 3) := by decide +kernel
theorem dJ9_min_7cf53_5 : decode cJ9_min_7cf53 5 = .ok (.iload_n 0, 1) := by decide +kernel
theorem dJ9_min_7cf53_6 : decode cJ9_min_7cf53 6 = .ok (.goto 4, 3) := by decide +kernel
theorem dJ9_min_7cf53_9 : decode cJ9_min_7cf53 9 = .ok (.iload_n 1, 1) := by decide +kernel
theorem dJ9_min_7cf53_10 : decode cJ9_min_7cf53 10 = .ok (.ireturn, 1) := by decide +kernel
set_option maxRecDepth 20000 in
theorem ggL_law_X7_init : GoodIn wsL_law wsX7_init := goodIn_r _ [8, 9, 10, 11, 12, 13, 14, 15, 16, 17, 18, 19, 20, 21, 22, 23, 24, 25, 26, 27, 28, 29, 30, 31, 32, 33, 34, 35, 36, 37, 38, 39, 40, 41, 42, 43, 44, 45, 46, 47, 48, 49, 50, 51, 52, 53, 54, 55, 56, 57, 58, 59, 60, 61, 62, 63, 64, 65, 66, 67, 68, 69, 70, 71, 72, 73, 74, 75, 76, 77, 78, 79, 80, 81, 82, 83, 84, 85, 86, 87, 88, 89, 90, 91, 92, 93, 94, 716, 717, 718, 719, 720, 682, 683, 684, 685, 686, 687, 688, 721, 722, 723, 724, 725, 726, 727, 728, 729, 730, 731, 732, 733, 734, 735, 736, 737, 738, 739, 740, 741, 742, 743, 744, 745, 746, 747, 748, 749, 750, 751, 752, 753] (by decide +kernel) (by decide +kernel)
set_option maxRecDepth 20000 in
theorem gL_law_X7_init : GoodIn wsL_law (wsX7_init) := ggL_law_X7_init
set_option maxRecDepth 20000 in
theorem ggL_law_X8_init : GoodIn wsL_law wsX8_init := goodIn_r _ [97, 98, 10, 11, 99, 44, 100, 101, 102, 53, 103, 104, 105, 56, 106, 107, 108, 109, 110, 111, 112, 113, 114, 115, 116, 117, 118, 119, 120, 689, 690, 691, 692, 693, 694, 695, 696, 697, 698, 699, 700, 701, 702, 703, 704, 705, 706, 707, 708, 709, 710, 711, 712, 713, 714, 715] (by decide +kernel) (by decide +kernel)
set_option maxRecDepth 20000 in
theorem gL_law_X8_init : GoodIn wsL_law (wsX8_init) := ggL_law_X8_init
set_option maxRecDepth 20000 in
theorem ggL_law_X7_length : GoodIn wsL_law wsX7_length := goodIn_r _ [124, 19, 125, 15, 126, 127, 128, 129, 2, 130, 682, 683, 684, 685, 686, 687, 688, 721, 722, 723, 724, 725, 726, 727, 728, 716, 717, 718, 719, 720] (by decide +kernel) (by decide +kernel)
set_option maxRecDepth 20000 in
theorem gL_law_X7_length : GoodIn wsL_law (wsV RL 13 RX7 yX7_length wsX7_length) := goodIn_app (goodIn_of _ (by decide +kernel)) ggL_law_X7_length
set_option maxRecDepth 20000 in
theorem ggL_law_X8_length : GoodIn wsL_law wsX8_length := goodIn_r _ [134, 135, 99, 136, 137, 138, 139, 5, 140, 689, 690, 691, 692, 693, 694, 695, 696, 697, 698, 699, 700, 701, 702, 703, 704, 705, 706, 707, 708, 709, 710, 711, 712, 713, 714, 715] (by decide +kernel) (by decide +kernel)
set_option maxRecDepth 20000 in
theorem gL_law_X8_length : GoodIn wsL_law (wsV RL 17 RX8 yX8_length wsX8_length) := goodIn_app (goodIn_of _ (by decide +kernel)) ggL_law_X8_length
set_option maxRecDepth 20000 in
theorem ggL_law_X7_bend : GoodIn wsL_law wsX7_bend := goodIn_r _ [144, 15, 126, 19, 125, 127, 128, 129, 2, 130, 145, 146, 147, 14, 148, 149, 46, 45, 150, 151, 152, 153, 47, 682, 683, 684, 685, 686, 687, 688, 716, 717, 718, 719, 720, 721, 722, 723, 724, 725, 726, 727, 728] (by decide +kernel) (by decide +kernel)
set_option maxRecDepth 20000 in
theorem gL_law_X7_bend : GoodIn wsL_law (wsV RL 18 RX7 yX7_bend wsX7_bend) := goodIn_app (goodIn_of _ (by decide +kernel)) ggL_law_X7_bend
set_option maxRecDepth 20000 in
theorem ggL_law_X8_bend : GoodIn wsL_law wsX8_bend := goodIn_r _ [157, 99, 135, 136, 101, 100, 102, 137, 138, 139, 5, 140, 689, 690, 691, 692, 693, 694, 695, 696, 697, 698, 699, 700, 701, 702, 703, 704, 705, 706, 707, 708, 709, 710, 711, 712, 713, 714, 715] (by decide +kernel) (by decide +kernel)
set_option maxRecDepth 20000 in
theorem gL_law_X8_bend : GoodIn wsL_law (wsV RL 22 RX8 yX8_bend wsX8_bend) := goodIn_app (goodIn_of _ (by decide +kernel)) ggL_law_X8_bend
set_option maxRecDepth 20000 in
theorem ggL_law_X7_aside : GoodIn wsL_law wsX7_aside := goodIn_r _ [161, 15, 162, 163, 164, 165, 14, 166, 43, 167, 168, 169, 170, 149, 45, 46, 47, 682, 683, 684, 685, 686, 687, 688, 716, 717, 718, 719, 720] (by decide +kernel) (by decide +kernel)
set_option maxRecDepth 20000 in
theorem gL_law_X7_aside : GoodIn wsL_law (wsV RL 23 RX7 yX7_aside wsX7_aside) := goodIn_app (goodIn_of _ (by decide +kernel)) ggL_law_X7_aside
set_option maxRecDepth 20000 in
theorem ggL_law_X8_aside : GoodIn wsL_law wsX8_aside := goodIn_r _ [174, 99, 175, 138, 139, 5, 140, 176, 177, 178, 179, 137, 103, 136, 102, 100, 101, 180, 181, 182, 689, 690, 691, 692, 693, 694, 695, 696, 697, 698, 699, 700, 701, 702, 703, 704, 705, 706, 707, 708, 709, 710, 711, 712, 713, 714, 715] (by decide +kernel) (by decide +kernel)
set_option maxRecDepth 20000 in
theorem gL_law_X8_aside : GoodIn wsL_law (wsV RL 27 RX8 yX8_aside wsX8_aside) := goodIn_app (goodIn_of _ (by decide +kernel)) ggL_law_X8_aside
set_option maxRecDepth 20000 in
theorem ggL_law_X7_peg : GoodIn wsL_law wsX7_peg := goodIn_r _ [186, 15, 19, 187, 125, 188, 163, 164, 165, 14, 166, 43, 128, 129, 2, 130, 189, 190, 191, 18, 192, 193, 51, 167, 168, 169, 170, 149, 45, 46, 47, 194, 195, 196, 197, 52, 54, 198, 199, 200, 201, 57, 55, 682, 683, 684, 685, 686, 687, 688, 721, 722, 723, 724, 725, 726, 727, 728, 716, 717, 718, 719, 720] (by decide +kernel) (by decide +kernel)
set_option maxRecDepth 20000 in
theorem gL_law_X7_peg : GoodIn wsL_law (wsV RL 28 RX7 yX7_peg wsX7_peg) := goodIn_app (goodIn_of _ (by decide +kernel)) ggL_law_X7_peg
set_option maxRecDepth 20000 in
theorem ggL_law_X8_peg : GoodIn wsL_law wsX8_peg := goodIn_r _ [205, 99, 135, 104, 105, 106, 107, 138, 139, 5, 140, 206, 207, 208, 209, 689, 690, 691, 692, 693, 694, 695, 696, 697, 698, 699, 700, 701, 702, 703, 704, 705, 706, 707, 708, 709, 710, 711, 712, 713, 714, 715] (by decide +kernel) (by decide +kernel)
set_option maxRecDepth 20000 in
theorem gL_law_X8_peg : GoodIn wsL_law (wsV RL 32 RX8 yX8_peg wsX8_peg) := goodIn_app (goodIn_of _ (by decide +kernel)) ggL_law_X8_peg
set_option maxRecDepth 20000 in
theorem ggL_law_X7_mast : GoodIn wsL_law wsX7_mast := goodIn_r _ [213, 19, 187, 214, 215, 216, 18, 217, 193, 128, 129, 2, 130, 218, 219, 220, 221, 57, 55, 222, 223, 224, 225, 226, 58, 682, 683, 684, 685, 686, 687, 688, 721, 722, 723, 724, 725, 726, 727, 728] (by decide +kernel) (by decide +kernel)
set_option maxRecDepth 20000 in
theorem gL_law_X7_mast : GoodIn wsL_law (wsV RL 33 RX7 yX7_mast wsX7_mast) := goodIn_app (goodIn_of _ (by decide +kernel)) ggL_law_X7_mast
set_option maxRecDepth 20000 in
theorem ggL_law_X8_mast : GoodIn wsL_law wsX8_mast := goodIn_r _ [230, 106, 107, 231, 232, 233, 5, 234, 135, 138, 139, 140, 206, 207, 208, 209, 689, 690, 691, 692, 693, 694, 695, 696, 697, 698, 699, 700, 701, 702, 703, 704, 705, 706, 707, 708, 709, 710, 711, 712, 713, 714, 715] (by decide +kernel) (by decide +kernel)
set_option maxRecDepth 20000 in
theorem gL_law_X8_mast : GoodIn wsL_law (wsV RL 36 RX8 yX8_mast wsX8_mast) := goodIn_app (goodIn_of _ (by decide +kernel)) ggL_law_X8_mast
set_option maxRecDepth 20000 in
theorem ggL_law_X7_fell : GoodIn wsL_law wsX7_fell := goodIn_r _ [238, 19, 239, 187, 214, 215, 216, 18, 217, 193, 240, 199, 200, 201, 57, 55, 222, 223, 224, 225, 226, 58, 682, 683, 684, 685, 686, 687, 688, 721, 722, 723, 724, 725, 726, 727, 728] (by decide +kernel) (by decide +kernel)
set_option maxRecDepth 20000 in
theorem gL_law_X7_fell : GoodIn wsL_law (wsV RL 37 RX7 yX7_fell wsX7_fell) := goodIn_app (goodIn_of _ (by decide +kernel)) ggL_law_X7_fell
set_option maxRecDepth 20000 in
theorem ggL_law_X8_fell : GoodIn wsL_law wsX8_fell := goodIn_r _ [244, 106, 107, 231, 232, 233, 5, 234, 135, 138, 139, 140, 206, 207, 208, 209, 689, 690, 691, 692, 693, 694, 695, 696, 697, 698, 699, 700, 701, 702, 703, 704, 705, 706, 707, 708, 709, 710, 711, 712, 713, 714, 715] (by decide +kernel) (by decide +kernel)
set_option maxRecDepth 20000 in
theorem gL_law_X8_fell : GoodIn wsL_law (wsV RL 40 RX8 yX8_fell wsX8_fell) := goodIn_app (goodIn_of _ (by decide +kernel)) ggL_law_X8_fell
set_option maxRecDepth 20000 in
theorem ggL_law_X7_clear : GoodIn wsL_law wsX7_clear := goodIn_r _ [248, 19, 125, 187, 15, 127, 682, 683, 684, 685, 686, 687, 688, 721, 722, 723, 724, 725, 726, 727, 728, 716, 717, 718, 719, 720] (by decide +kernel) (by decide +kernel)
set_option maxRecDepth 20000 in
theorem gL_law_X7_clear : GoodIn wsL_law (wsV RL 41 RX7 yX7_clear wsX7_clear) := goodIn_app (goodIn_of _ (by decide +kernel)) ggL_law_X7_clear
set_option maxRecDepth 20000 in
theorem ggL_law_X8_clear : GoodIn wsL_law wsX8_clear := goodIn_r _ [252, 135, 106, 107, 136, 137, 689, 690, 691, 692, 693, 694, 695, 696, 697, 698, 699, 700, 701, 702, 703, 704, 705, 706, 707, 708, 709, 710, 711, 712, 713, 714, 715] (by decide +kernel) (by decide +kernel)
set_option maxRecDepth 20000 in
theorem gL_law_X8_clear : GoodIn wsL_law (wsV RL 45 RX8 yX8_clear wsX8_clear) := goodIn_app (goodIn_of _ (by decide +kernel)) ggL_law_X8_clear
set_option maxRecDepth 20000 in
theorem ggL_law_X7_about : GoodIn wsL_law wsX7_about := goodIn_r _ [256, 19, 188, 257, 239, 258, 214, 215, 216, 18, 217, 193, 682, 683, 684, 685, 686, 687, 688, 721, 722, 723, 724, 725, 726, 727, 728] (by decide +kernel) (by decide +kernel)
set_option maxRecDepth 20000 in
theorem gL_law_X7_about : GoodIn wsL_law (wsV RL 46 RX7 yX7_about wsX7_about) := goodIn_app (goodIn_of _ (by decide +kernel)) ggL_law_X7_about
set_option maxRecDepth 20000 in
theorem ggL_law_X8_about : GoodIn wsL_law wsX8_about := goodIn_r _ [262, 104, 105, 106, 107, 231, 232, 233, 5, 234, 135, 138, 139, 140, 689, 690, 691, 692, 693, 694, 695, 696, 697, 698, 699, 700, 701, 702, 703, 704, 705, 706, 707, 708, 709, 710, 711, 712, 713, 714, 715] (by decide +kernel) (by decide +kernel)
set_option maxRecDepth 20000 in
theorem gL_law_X8_about : GoodIn wsL_law (wsV RL 49 RX8 yX8_about wsX8_about) := goodIn_app (goodIn_of _ (by decide +kernel)) ggL_law_X8_about
set_option maxRecDepth 20000 in
theorem ggL_law_X7_bow : GoodIn wsL_law wsX7_bow := goodIn_r _ [266, 23, 267, 268, 269, 270, 128, 129, 2, 130, 682, 683, 684, 685, 686, 687, 688, 729, 730, 731, 732] (by decide +kernel) (by decide +kernel)
set_option maxRecDepth 20000 in
theorem gL_law_X7_bow : GoodIn wsL_law (wsV RL 50 RX7 yX7_bow wsX7_bow) := goodIn_app (goodIn_of _ (by decide +kernel)) ggL_law_X7_bow
set_option maxRecDepth 20000 in
theorem ggL_law_X8_bow : GoodIn wsL_law wsX8_bow := goodIn_r _ [274, 275, 108, 109, 276, 110, 138, 139, 5, 140, 689, 690, 691, 692, 693, 694, 695, 696, 697, 698, 699, 700, 701, 702, 703, 704, 705, 706, 707, 708, 709, 710, 711, 712, 713, 714, 715] (by decide +kernel) (by decide +kernel)
set_option maxRecDepth 20000 in
theorem gL_law_X8_bow : GoodIn wsL_law (wsV RL 54 RX8 yX8_bow wsX8_bow) := goodIn_app (goodIn_of _ (by decide +kernel)) ggL_law_X8_bow
set_option maxRecDepth 20000 in
theorem ggL_law_X7_off : GoodIn wsL_law wsX7_off := goodIn_r _ [280, 162, 281, 27, 282, 283, 284, 2, 285, 19, 286, 287, 288, 18, 289, 226, 290, 291, 292, 293, 51, 58, 294, 295, 296, 297, 298, 299, 300, 301, 302, 258, 303, 304, 305, 26, 306, 72, 307, 308, 309, 310, 311, 312, 128, 129, 130, 313, 314, 315, 316, 71, 317, 168, 169, 14, 170, 149, 45, 46, 47, 318, 319, 320, 321, 322, 323, 324, 325, 326, 327, 328, 329, 330, 331, 332, 682, 683, 684, 685, 686, 687, 688, 721, 722, 723, 724, 725, 726, 727, 728, 733, 734, 735, 736, 737, 738, 739, 716, 717, 718, 719, 720] (by decide +kernel) (by decide +kernel)
set_option maxRecDepth 20000 in
theorem gL_law_X7_off : GoodIn wsL_law (wsV RL 55 RX7 yX7_off wsX7_off) := goodIn_app (goodIn_of _ (by decide +kernel)) ggL_law_X7_off
set_option maxRecDepth 20000 in
theorem ggL_law_X8_off : GoodIn wsL_law wsX8_off := goodIn_r _ [336, 175, 337, 104, 107, 338, 339, 340, 5, 341, 135, 106, 138, 139, 140, 342, 343, 344, 345, 346, 347, 348, 349, 350, 176, 177, 178, 179, 137, 99, 103, 136, 102, 100, 101, 180, 181, 182, 351, 352, 353, 354, 355, 356, 689, 690, 691, 692, 693, 694, 695, 696, 697, 698, 699, 700, 701, 702, 703, 704, 705, 706, 707, 708, 709, 710, 711, 712, 713, 714, 715] (by decide +kernel) (by decide +kernel)
set_option maxRecDepth 20000 in
theorem gL_law_X8_off : GoodIn wsL_law (wsV RL 59 RX8 yX8_off wsX8_off) := goodIn_app (goodIn_of _ (by decide +kernel)) ggL_law_X8_off
set_option maxRecDepth 20000 in
theorem ggL_law_X7_kept : GoodIn wsL_law wsX7_kept := goodIn_r _ [360, 27, 282, 283, 284, 2, 285, 19, 286, 287, 288, 18, 289, 226, 290, 291, 292, 293, 51, 58, 294, 295, 296, 297, 298, 299, 300, 301, 302, 258, 303, 304, 305, 26, 306, 72, 307, 308, 309, 310, 311, 312, 361, 362, 363, 364, 365, 326, 327, 328, 366, 314, 315, 316, 71, 317, 168, 169, 14, 170, 149, 45, 46, 47, 367, 368, 369, 370, 73, 371, 372, 373, 682, 683, 684, 685, 686, 687, 688, 721, 722, 723, 724, 725, 726, 727, 728, 733, 734, 735, 736, 737, 738, 739, 716, 717, 718, 719, 720, 729, 730, 731, 732] (by decide +kernel) (by decide +kernel)
set_option maxRecDepth 20000 in
theorem gL_law_X7_kept : GoodIn wsL_law (wsV RL 60 RX7 yX7_kept wsX7_kept) := goodIn_app (goodIn_of _ (by decide +kernel)) ggL_law_X7_kept
set_option maxRecDepth 20000 in
theorem ggL_law_X8_kept : GoodIn wsL_law wsX8_kept := goodIn_r _ [377, 338, 339, 340, 5, 341, 135, 106, 104, 378, 379, 380, 381, 107, 342, 343, 344, 345, 382, 383, 384, 385, 275, 350, 109, 276, 108, 346, 347, 348, 349, 176, 177, 178, 179, 137, 99, 103, 136, 102, 100, 101, 180, 181, 182, 689, 690, 691, 692, 693, 694, 695, 696, 697, 698, 699, 700, 701, 702, 703, 704, 705, 706, 707, 708, 709, 710, 711, 712, 713, 714, 715] (by decide +kernel) (by decide +kernel)
set_option maxRecDepth 20000 in
theorem gL_law_X8_kept : GoodIn wsL_law (wsV RL 63 RX8 yX8_kept wsX8_kept) := goodIn_app (goodIn_of _ (by decide +kernel)) ggL_law_X8_kept
set_option maxRecDepth 20000 in
theorem ggL_law_X7_worst : GoodIn wsL_law wsX7_worst := goodIn_r _ [389, 19, 27, 286, 287, 288, 18, 289, 226, 298, 299, 300, 2, 301, 302, 258, 303, 304, 305, 26, 306, 72, 307, 308, 309, 310, 311, 312, 390, 391, 392, 393, 394, 362, 363, 364, 365, 326, 327, 328, 366, 314, 315, 316, 71, 317, 168, 169, 14, 170, 149, 45, 46, 47, 367, 368, 369, 370, 73, 371, 372, 373, 682, 683, 684, 685, 686, 687, 688, 721, 722, 723, 724, 725, 726, 727, 728, 733, 734, 735, 736, 737, 738, 739, 716, 717, 718, 719, 720, 729, 730, 731, 732] (by decide +kernel) (by decide +kernel)
set_option maxRecDepth 20000 in
theorem gL_law_X7_worst : GoodIn wsL_law (wsV RL 64 RX7 yX7_worst wsX7_worst) := goodIn_app (goodIn_of _ (by decide +kernel)) ggL_law_X7_worst
set_option maxRecDepth 20000 in
theorem ggL_law_X8_worst : GoodIn wsL_law wsX8_worst := goodIn_r _ [398, 99, 338, 339, 340, 5, 341, 135, 106, 104, 378, 379, 380, 381, 107, 342, 343, 344, 345, 382, 383, 384, 385, 275, 350, 109, 276, 108, 346, 347, 348, 349, 176, 177, 178, 179, 137, 103, 136, 102, 100, 101, 180, 181, 182, 689, 690, 691, 692, 693, 694, 695, 696, 697, 698, 699, 700, 701, 702, 703, 704, 705, 706, 707, 708, 709, 710, 711, 712, 713, 714, 715] (by decide +kernel) (by decide +kernel)
set_option maxRecDepth 20000 in
theorem gL_law_X8_worst : GoodIn wsL_law (wsV RL 67 RX8 yX8_worst wsX8_worst) := goodIn_app (goodIn_of _ (by decide +kernel)) ggL_law_X8_worst
set_option maxRecDepth 20000 in
theorem ggL_law_X7_spanKept : GoodIn wsL_law wsX7_spanKept := goodIn_r _ [402, 19, 27, 403, 404, 405, 18, 406, 407, 287, 288, 289, 226, 298, 299, 300, 2, 301, 302, 258, 303, 304, 305, 26, 306, 72, 307, 308, 309, 310, 311, 312, 408, 409, 410, 411, 73, 412, 71, 413, 414, 415, 416, 417, 418, 419, 420, 394, 362, 363, 364, 365, 326, 327, 328, 366, 314, 315, 316, 317, 168, 169, 14, 170, 149, 45, 46, 47, 367, 368, 369, 370, 371, 372, 373, 421, 422, 423, 424, 425, 682, 683, 684, 685, 686, 687, 688, 721, 722, 723, 724, 725, 726, 727, 728, 733, 734, 735, 736, 737, 738, 739, 729, 730, 731, 732, 716, 717, 718, 719, 720] (by decide +kernel) (by decide +kernel)
set_option maxRecDepth 20000 in
theorem gL_law_X7_spanKept : GoodIn wsL_law (wsV RL 68 RX7 yX7_spanKept wsX7_spanKept) := goodIn_app (goodIn_of _ (by decide +kernel)) ggL_law_X7_spanKept
set_option maxRecDepth 20000 in
theorem ggL_law_X8_spanKept : GoodIn wsL_law wsX8_spanKept := goodIn_r _ [429, 104, 107, 430, 431, 432, 5, 433, 135, 106, 342, 343, 344, 345, 434, 435, 436, 437, 110, 382, 383, 384, 385, 275, 350, 109, 276, 108, 346, 347, 348, 349, 176, 177, 178, 179, 137, 99, 103, 136, 102, 100, 101, 180, 181, 182, 689, 690, 691, 692, 693, 694, 695, 696, 697, 698, 699, 700, 701, 702, 703, 704, 705, 706, 707, 708, 709, 710, 711, 712, 713, 714, 715] (by decide +kernel) (by decide +kernel)
set_option maxRecDepth 20000 in
theorem gL_law_X8_spanKept : GoodIn wsL_law (wsV RL 71 RX8 yX8_spanKept wsX8_spanKept) := goodIn_app (goodIn_of _ (by decide +kernel)) ggL_law_X8_spanKept
set_option maxRecDepth 20000 in
theorem ggL_law_X7_ways : GoodIn wsL_law wsX7_ways := goodIn_r _ [441, 19, 35, 214, 215, 216, 18, 217, 193, 128, 129, 2, 130, 442, 443, 444, 34, 445, 446, 89, 447, 448, 449, 450, 451, 452, 453, 454, 455, 304, 305, 26, 306, 72, 307, 308, 309, 310, 311, 312, 456, 409, 410, 411, 73, 412, 71, 413, 414, 415, 416, 417, 418, 419, 420, 394, 362, 363, 364, 365, 326, 327, 328, 366, 314, 315, 316, 317, 168, 169, 14, 170, 149, 45, 46, 47, 367, 368, 369, 370, 371, 372, 373, 421, 422, 423, 424, 425, 682, 683, 684, 685, 686, 687, 688, 721, 722, 723, 724, 725, 726, 727, 728, 745, 746, 747, 748, 749, 750, 733, 734, 735, 736, 737, 738, 739, 729, 730, 731, 732, 716, 717, 718, 719, 720] (by decide +kernel) (by decide +kernel)
set_option maxRecDepth 20000 in
theorem gL_law_X7_ways : GoodIn wsL_law (wsV RL 72 RX7 yX7_ways wsX7_ways) := goodIn_app (goodIn_of _ (by decide +kernel)) ggL_law_X7_ways
set_option maxRecDepth 20000 in
theorem ggL_law_X8_ways : GoodIn wsL_law wsX8_ways := goodIn_r _ [460, 104, 231, 232, 233, 5, 234, 135, 138, 139, 140, 434, 435, 436, 437, 110, 382, 383, 384, 385, 275, 350, 109, 276, 108, 346, 347, 348, 349, 176, 177, 178, 179, 137, 99, 103, 136, 102, 100, 101, 180, 181, 182, 689, 690, 691, 692, 693, 694, 695, 696, 697, 698, 699, 700, 701, 702, 703, 704, 705, 706, 707, 708, 709, 710, 711, 712, 713, 714, 715] (by decide +kernel) (by decide +kernel)
set_option maxRecDepth 20000 in
theorem gL_law_X8_ways : GoodIn wsL_law (wsV RL 75 RX8 yX8_ways wsX8_ways) := goodIn_app (goodIn_of _ (by decide +kernel)) ggL_law_X8_ways
set_option maxRecDepth 20000 in
theorem ggL_law_X7_carrier : GoodIn wsL_law wsX7_carrier := goodIn_r _ [464, 31, 465, 466, 467, 468, 469, 128, 129, 2, 130, 682, 683, 684, 685, 686, 687, 688, 740, 741, 742, 743, 744] (by decide +kernel) (by decide +kernel)
set_option maxRecDepth 20000 in
theorem gL_law_X7_carrier : GoodIn wsL_law (wsV RL 76 RX7 yX7_carrier wsX7_carrier) := goodIn_app (goodIn_of _ (by decide +kernel)) ggL_law_X7_carrier
set_option maxRecDepth 20000 in
theorem ggL_law_X8_carrier : GoodIn wsL_law wsX8_carrier := goodIn_r _ [473, 111, 112, 113, 114, 115, 138, 139, 5, 140, 689, 690, 691, 692, 693, 694, 695, 696, 697, 698, 699, 700, 701, 702, 703, 704, 705, 706, 707, 708, 709, 710, 711, 712, 713, 714, 715] (by decide +kernel) (by decide +kernel)
set_option maxRecDepth 20000 in
theorem gL_law_X8_carrier : GoodIn wsL_law (wsV RL 79 RX8 yX8_carrier wsX8_carrier) := goodIn_app (goodIn_of _ (by decide +kernel)) ggL_law_X8_carrier
set_option maxRecDepth 20000 in
theorem ggL_law_X7_sag : GoodIn wsL_law wsX7_sag := goodIn_r _ [477, 329, 31, 478, 479, 480, 2, 481, 467, 128, 129, 130, 482, 483, 484, 30, 485, 79, 486, 487, 327, 488, 489, 490, 491, 78, 492, 80, 493, 494, 495, 496, 497, 77, 322, 323, 324, 325, 326, 328, 330, 331, 332, 682, 683, 684, 685, 686, 687, 688, 740, 741, 742, 743, 744] (by decide +kernel) (by decide +kernel)
set_option maxRecDepth 20000 in
theorem gL_law_X7_sag : GoodIn wsL_law (wsV RL 80 RX7 yX7_sag wsX7_sag) := goodIn_app (goodIn_of _ (by decide +kernel)) ggL_law_X7_sag
set_option maxRecDepth 20000 in
theorem ggL_law_X8_sag : GoodIn wsL_law wsX8_sag := goodIn_r _ [501, 502, 503, 504, 5, 505, 113, 175, 337, 138, 139, 140, 506, 507, 508, 509, 510, 112, 114, 511, 512, 513, 514, 515, 111, 351, 352, 353, 354, 355, 356, 689, 690, 691, 692, 693, 694, 695, 696, 697, 698, 699, 700, 701, 702, 703, 704, 705, 706, 707, 708, 709, 710, 711, 712, 713, 714, 715] (by decide +kernel) (by decide +kernel)
set_option maxRecDepth 20000 in
theorem gL_law_X8_sag : GoodIn wsL_law (wsV RL 84 RX8 yX8_sag wsX8_sag) := goodIn_app (goodIn_of _ (by decide +kernel)) ggL_law_X8_sag
set_option maxRecDepth 20000 in
theorem ggL_law_X7_dropper : GoodIn wsL_law wsX7_dropper := goodIn_r _ [519, 329, 31, 478, 479, 480, 2, 481, 467, 128, 129, 130, 520, 521, 522, 30, 523, 81, 524, 494, 495, 496, 497, 79, 77, 525, 483, 484, 485, 486, 487, 327, 488, 489, 490, 491, 78, 492, 80, 493, 322, 323, 324, 325, 326, 328, 330, 331, 332, 682, 683, 684, 685, 686, 687, 688, 740, 741, 742, 743, 744] (by decide +kernel) (by decide +kernel)
set_option maxRecDepth 20000 in
theorem gL_law_X7_dropper : GoodIn wsL_law (wsV RL 85 RX7 yX7_dropper wsX7_dropper) := goodIn_app (goodIn_of _ (by decide +kernel)) ggL_law_X7_dropper
set_option maxRecDepth 20000 in
theorem ggL_law_X8_dropper : GoodIn wsL_law wsX8_dropper := goodIn_r _ [529, 502, 503, 504, 5, 505, 113, 175, 337, 138, 139, 140, 530, 531, 532, 533, 115, 511, 512, 513, 514, 515, 111, 506, 507, 508, 509, 510, 112, 114, 351, 352, 353, 354, 355, 356, 689, 690, 691, 692, 693, 694, 695, 696, 697, 698, 699, 700, 701, 702, 703, 704, 705, 706, 707, 708, 709, 710, 711, 712, 713, 714, 715] (by decide +kernel) (by decide +kernel)
set_option maxRecDepth 20000 in
theorem gL_law_X8_dropper : GoodIn wsL_law (wsV RL 88 RX8 yX8_dropper wsX8_dropper) := goodIn_app (goodIn_of _ (by decide +kernel)) ggL_law_X8_dropper
set_option maxRecDepth 20000 in
theorem ggL_law_X7_cut : GoodIn wsL_law wsX7_cut := goodIn_r _ [537, 538, 31, 478, 479, 480, 2, 481, 467, 128, 129, 130, 539, 540, 541, 30, 542, 524, 494, 495, 496, 497, 79, 77, 543, 521, 522, 523, 81, 525, 483, 484, 485, 486, 487, 327, 488, 489, 490, 491, 78, 492, 80, 544, 545, 546, 547, 682, 683, 684, 685, 686, 687, 688, 740, 741, 742, 743, 744] (by decide +kernel) (by decide +kernel)
set_option maxRecDepth 20000 in
theorem gL_law_X7_cut : GoodIn wsL_law (wsV RL 89 RX7 yX7_cut wsX7_cut) := goodIn_app (goodIn_of _ (by decide +kernel)) ggL_law_X7_cut
set_option maxRecDepth 20000 in
theorem ggL_law_X8_cut : GoodIn wsL_law wsX8_cut := goodIn_r _ [551, 113, 552, 553, 138, 139, 5, 140, 554, 555, 556, 557, 530, 531, 532, 533, 115, 511, 512, 513, 514, 515, 111, 506, 507, 508, 509, 510, 112, 114, 689, 690, 691, 692, 693, 694, 695, 696, 697, 698, 699, 700, 701, 702, 703, 704, 705, 706, 707, 708, 709, 710, 711, 712, 713, 714, 715] (by decide +kernel) (by decide +kernel)
set_option maxRecDepth 20000 in
theorem gL_law_X8_cut : GoodIn wsL_law (wsV RL 92 RX8 yX8_cut wsX8_cut) := goodIn_app (goodIn_of _ (by decide +kernel)) ggL_law_X8_cut
set_option maxRecDepth 20000 in
theorem ggL_law_X7_bears : GoodIn wsL_law wsX7_bears := goodIn_r _ [561, 281, 31, 562, 128, 129, 2, 130, 563, 564, 565, 30, 566, 78, 79, 80, 322, 323, 324, 325, 326, 327, 328, 329, 330, 331, 332, 682, 683, 684, 685, 686, 687, 688, 740, 741, 742, 743, 744] (by decide +kernel) (by decide +kernel)
set_option maxRecDepth 20000 in
theorem gL_law_X7_bears : GoodIn wsL_law (wsV RL 93 RX7 yX7_bears wsX7_bears) := goodIn_app (goodIn_of _ (by decide +kernel)) ggL_law_X7_bears
set_option maxRecDepth 20000 in
theorem ggL_law_X8_bears : GoodIn wsL_law wsX8_bears := goodIn_r _ [570, 337, 112, 113, 114, 510, 138, 139, 5, 140, 351, 352, 353, 354, 355, 356, 689, 690, 691, 692, 693, 694, 695, 696, 697, 698, 699, 700, 701, 702, 703, 704, 705, 706, 707, 708, 709, 710, 711, 712, 713, 714, 715] (by decide +kernel) (by decide +kernel)
set_option maxRecDepth 20000 in
theorem gL_law_X8_bears : GoodIn wsL_law (wsV RL 96 RX8 yX8_bears wsX8_bears) := goodIn_app (goodIn_of _ (by decide +kernel)) ggL_law_X8_bears
set_option maxRecDepth 20000 in
theorem ggL_law_X7_shortOne : GoodIn wsL_law wsX7_shortOne := goodIn_r _ [574, 19, 31, 467, 575, 286, 287, 288, 18, 289, 226, 576, 577, 578, 579, 580, 295, 296, 297, 51, 58, 581, 291, 292, 293, 520, 521, 522, 30, 523, 81, 524, 494, 495, 496, 497, 79, 77, 525, 483, 484, 485, 486, 487, 327, 488, 489, 490, 491, 78, 492, 80, 493, 682, 683, 684, 685, 686, 687, 688, 740, 741, 742, 743, 744, 721, 722, 723, 724, 725, 726, 727, 728] (by decide +kernel) (by decide +kernel)
set_option maxRecDepth 20000 in
theorem gL_law_X7_shortOne : GoodIn wsL_law (wsV RL 97 RX7 yX7_shortOne wsX7_shortOne) := goodIn_app (goodIn_of _ (by decide +kernel)) ggL_law_X7_shortOne
set_option maxRecDepth 20000 in
theorem ggL_law_X8_shortOne : GoodIn wsL_law wsX8_shortOne := goodIn_r _ [585, 104, 113, 586, 206, 207, 208, 5, 209, 135, 106, 430, 431, 432, 433, 342, 343, 344, 345, 530, 531, 532, 533, 115, 511, 512, 513, 514, 515, 111, 506, 507, 508, 509, 510, 112, 114, 689, 690, 691, 692, 693, 694, 695, 696, 697, 698, 699, 700, 701, 702, 703, 704, 705, 706, 707, 708, 709, 710, 711, 712, 713, 714, 715] (by decide +kernel) (by decide +kernel)
set_option maxRecDepth 20000 in
theorem gL_law_X8_shortOne : GoodIn wsL_law (wsV RL 100 RX8 yX8_shortOne wsX8_shortOne) := goodIn_app (goodIn_of _ (by decide +kernel)) ggL_law_X8_shortOne
set_option maxRecDepth 20000 in
theorem ggL_law_X7_heat : GoodIn wsL_law wsX7_heat := goodIn_r _ [590, 281, 591, 592, 128, 129, 2, 130, 322, 323, 324, 325, 326, 327, 328, 329, 330, 331, 332] (by decide +kernel) (by decide +kernel)
set_option maxRecDepth 20000 in
theorem gL_law_X7_heat : GoodIn wsL_law (wsV RL 101 RX7 yX7_heat wsX7_heat) := goodIn_app (goodIn_of _ (by decide +kernel)) ggL_law_X7_heat
set_option maxRecDepth 20000 in
theorem ggL_law_X8_heat : GoodIn wsL_law wsX8_heat := goodIn_r _ [596, 337, 597, 598, 138, 139, 5, 140, 351, 352, 353, 354, 355, 356] (by decide +kernel) (by decide +kernel)
set_option maxRecDepth 20000 in
theorem gL_law_X8_heat : GoodIn wsL_law (wsV RL 104 RX8 yX8_heat wsX8_heat) := goodIn_app (goodIn_of _ (by decide +kernel)) ggL_law_X8_heat
set_option maxRecDepth 20000 in
theorem ggL_law_X7_choose : GoodIn wsL_law wsX7_choose := goodIn_r _ [602, 19, 125, 35, 128, 129, 2, 130, 603, 604, 605, 34, 606, 446, 88, 607, 608, 86, 609, 610, 611, 612, 613, 614, 87, 89, 447, 448, 449, 450, 451, 452, 453, 454, 455, 304, 305, 26, 306, 72, 307, 308, 309, 310, 311, 312, 456, 409, 410, 411, 73, 412, 71, 413, 414, 415, 416, 417, 418, 419, 420, 394, 362, 363, 364, 365, 326, 327, 328, 366, 314, 315, 316, 317, 168, 169, 14, 170, 149, 45, 46, 47, 367, 368, 369, 370, 371, 372, 373, 421, 422, 423, 424, 425, 615, 616, 617, 618, 619, 199, 200, 18, 201, 57, 55, 620, 219, 220, 221, 621, 223, 224, 225, 226, 193, 58, 622, 623, 624, 625, 52, 682, 683, 684, 685, 686, 687, 688, 721, 722, 723, 724, 725, 726, 727, 728, 745, 746, 747, 748, 749, 750, 733, 734, 735, 736, 737, 738, 739, 729, 730, 731, 732, 716, 717, 718, 719, 720] (by decide +kernel) (by decide +kernel)
set_option maxRecDepth 20000 in
theorem gL_law_X7_choose : GoodIn wsL_law (wsV RL 105 RX7 yX7_choose wsX7_choose) := goodIn_app (goodIn_of _ (by decide +kernel)) ggL_law_X7_choose
set_option maxRecDepth 20000 in
theorem ggL_law_X8_choose : GoodIn wsL_law wsX8_choose := goodIn_r _ [629, 135, 116, 105, 104, 117, 106, 107, 138, 139, 5, 140, 630, 631, 632, 633, 434, 435, 436, 437, 110, 382, 383, 384, 385, 275, 350, 109, 276, 108, 346, 347, 348, 349, 176, 177, 178, 179, 137, 99, 103, 136, 102, 100, 101, 180, 181, 182, 689, 690, 691, 692, 693, 694, 695, 696, 697, 698, 699, 700, 701, 702, 703, 704, 705, 706, 707, 708, 709, 710, 711, 712, 713, 714, 715] (by decide +kernel) (by decide +kernel)
set_option maxRecDepth 20000 in
theorem gL_law_X8_choose : GoodIn wsL_law (wsV RL 108 RX8 yX8_choose wsX8_choose) := goodIn_app (goodIn_of _ (by decide +kernel)) ggL_law_X8_choose
set_option maxRecDepth 20000 in
theorem ggL_law_X7_price : GoodIn wsL_law wsX7_price := goodIn_r _ [637, 19, 622, 623, 624, 18, 625, 226, 52, 58, 682, 683, 684, 685, 686, 687, 688, 721, 722, 723, 724, 725, 726, 727, 728] (by decide +kernel) (by decide +kernel)
set_option maxRecDepth 20000 in
theorem gL_law_X7_price : GoodIn wsL_law (wsV RL 109 RX7 yX7_price wsX7_price) := goodIn_app (goodIn_of _ (by decide +kernel)) ggL_law_X7_price
set_option maxRecDepth 20000 in
theorem ggL_law_X8_price : GoodIn wsL_law wsX8_price := goodIn_r _ [641, 135, 106, 105, 689, 690, 691, 692, 693, 694, 695, 696, 697, 698, 699, 700, 701, 702, 703, 704, 705, 706, 707, 708, 709, 710, 711, 712, 713, 714, 715] (by decide +kernel) (by decide +kernel)
set_option maxRecDepth 20000 in
theorem gL_law_X8_price : GoodIn wsL_law (wsV RL 112 RX8 yX8_price wsX8_price) := goodIn_app (goodIn_of _ (by decide +kernel)) ggL_law_X8_price
set_option maxRecDepth 20000 in
theorem ggL_law_X7_bars : GoodIn wsL_law wsX7_bars := goodIn_r _ [645, 19, 31, 467, 39, 646, 403, 404, 405, 18, 406, 407, 287, 288, 289, 226, 128, 129, 2, 130, 576, 577, 578, 579, 580, 295, 296, 297, 51, 58, 581, 291, 292, 293, 539, 540, 541, 30, 542, 524, 494, 495, 496, 497, 79, 77, 543, 521, 522, 523, 81, 525, 483, 484, 485, 486, 487, 327, 488, 489, 490, 491, 78, 492, 80, 544, 545, 546, 547, 647, 648, 649, 38, 650, 651, 93, 652, 653, 654, 655, 94, 44, 656, 657, 658, 659, 660, 661, 662, 663, 664, 665, 682, 683, 684, 685, 686, 687, 688, 740, 741, 742, 743, 744, 751, 752, 753, 721, 722, 723, 724, 725, 726, 727, 728] (by decide +kernel) (by decide +kernel)
set_option maxRecDepth 20000 in
theorem gL_law_X7_bars : GoodIn wsL_law (wsV RL 113 RX7 yX7_bars wsX7_bars) := goodIn_app (goodIn_of _ (by decide +kernel)) ggL_law_X7_bars
set_option maxRecDepth 20000 in
theorem ggL_law_X8_bars : GoodIn wsL_law wsX8_bars := goodIn_r _ [669, 113, 118, 104, 119, 120, 206, 207, 208, 5, 209, 135, 106, 138, 139, 140, 430, 431, 432, 433, 342, 343, 344, 345, 554, 555, 556, 557, 530, 531, 532, 533, 115, 511, 512, 513, 514, 515, 111, 506, 507, 508, 509, 510, 112, 114, 689, 690, 691, 692, 693, 694, 695, 696, 697, 698, 699, 700, 701, 702, 703, 704, 705, 706, 707, 708, 709, 710, 711, 712, 713, 714, 715] (by decide +kernel) (by decide +kernel)
set_option maxRecDepth 20000 in
theorem gL_law_X8_bars : GoodIn wsL_law (wsV RL 116 RX8 yX8_bars wsX8_bars) := goodIn_app (goodIn_of _ (by decide +kernel)) ggL_law_X8_bars
set_option maxRecDepth 20000 in
theorem ggL_law_X7_told : GoodIn wsL_law wsX7_told := goodIn_r _ [673, 15, 127, 19, 125, 187, 31, 467, 126, 286, 287, 288, 18, 289, 226, 674, 675, 676, 677, 407, 580, 295, 296, 297, 51, 58, 581, 291, 292, 293, 682, 683, 684, 685, 686, 687, 688, 716, 717, 718, 719, 720, 721, 722, 723, 724, 725, 726, 727, 728, 740, 741, 742, 743, 744] (by decide +kernel) (by decide +kernel)
set_option maxRecDepth 20000 in
theorem gL_law_X7_told : GoodIn wsL_law (wsV RL 117 RX7 yX7_told wsX7_told) := goodIn_app (goodIn_of _ (by decide +kernel)) ggL_law_X7_told
set_option maxRecDepth 20000 in
theorem ggL_law_X8_told : GoodIn wsL_law wsX8_told := goodIn_r _ [681, 136, 135, 113, 99, 104, 206, 207, 208, 5, 209, 106, 430, 431, 432, 433, 342, 343, 344, 345, 689, 690, 691, 692, 693, 694, 695, 696, 697, 698, 699, 700, 701, 702, 703, 704, 705, 706, 707, 708, 709, 710, 711, 712, 713, 714, 715] (by decide +kernel) (by decide +kernel)
set_option maxRecDepth 20000 in
theorem gL_law_X8_told : GoodIn wsL_law (wsV RL 120 RX8 yX8_told wsX8_told) := goodIn_app (goodIn_of _ (by decide +kernel)) ggL_law_X8_told
theorem dL_law_0 : decode cL_law 0 = .ok (.new 7, 3) := by decide +kernel
theorem dL_law_3 : decode cL_law 3 = .ok (.dup, 1) := by decide +kernel
theorem dL_law_4 : decode cL_law 4 = .ok (.invokespecial 9, 3) := by decide +kernel
theorem dL_law_7 : decode cL_law 7 = .ok (.astore_n 1, 1) := by decide +kernel
theorem dL_law_8 : decode cL_law 8 = .ok (.new 10, 3) := by decide +kernel
theorem dL_law_11 : decode cL_law 11 = .ok (.dup, 1) := by decide +kernel
theorem dL_law_12 : decode cL_law 12 = .ok (.invokespecial 12, 3) := by decide +kernel
theorem dL_law_15 : decode cL_law 15 = .ok (.astore_n 2, 1) := by decide +kernel
theorem dL_law_16 : decode cL_law 16 = .ok (.iconst 0, 1) := by decide +kernel
theorem dL_law_17 : decode cL_law 17 = .ok (.istore_n 3, 1) := by decide +kernel
theorem dL_law_18 : decode cL_law 18 = .ok (.iload_n 3, 1) := by decide +kernel
theorem dL_law_19 : decode cL_law 19 = .ok (.aload_n 0, 1) := by decide +kernel
theorem dL_law_20 : decode cL_law 20 = .ok (.arraylength, 1) := by decide +kernel
theorem dL_law_21 : decode cL_law 21 = .ok (.bipush 6, 2) := by decide +kernel
theorem dL_law_23 : decode cL_law 23 = .ok (.isub, 1) := by decide +kernel
theorem dL_law_24 : decode cL_law 24 = .ok (.if_icmp .gt 931, 3) := by decide +kernel
theorem dL_law_27 : decode cL_law 27 = .ok (.aload_n 0, 1) := by decide +kernel
theorem dL_law_28 : decode cL_law 28 = .ok (.iload_n 3, 1) := by decide +kernel
theorem dL_law_29 : decode cL_law 29 = .ok (.iaload, 1) := by decide +kernel
theorem dL_law_30 : decode cL_law 30 = .ok (.bipush 31, 2) := by decide +kernel
theorem dL_law_32 : decode cL_law 32 = .ok (.iand, 1) := by decide +kernel
theorem dL_law_33 : decode cL_law 33 = .ok (.tableswitch 916 0 24 #[115, 138, 181, 205, 238, 271, 294, 307, 340, 403, 437, 460, 473, 496, 539, 602, 646, 690, 723, 757, 770, 814, 837, 850, 893], 115) := by decide +kernel
theorem dL_law_148 : decode cL_law 148 = .ok (.aload_n 1, 1) := by decide +kernel
theorem dL_law_149 : decode cL_law 149 = .ok (.aload_n 0, 1) := by decide +kernel
theorem dL_law_150 : decode cL_law 150 = .ok (.iload_n 3, 1) := by decide +kernel
theorem dL_law_151 : decode cL_law 151 = .ok (.iconst 1, 1) := by decide +kernel
theorem dL_law_152 : decode cL_law 152 = .ok (.iadd, 1) := by decide +kernel
theorem dL_law_153 : decode cL_law 153 = .ok (.iaload, 1) := by decide +kernel
theorem dL_law_154 : decode cL_law 154 = .ok (.invokevirtual 13, 3) := by decide +kernel
theorem dL_law_157 : decode cL_law 157 = .ok (.aload_n 2, 1) := by decide +kernel
theorem dL_law_158 : decode cL_law 158 = .ok (.aload_n 0, 1) := by decide +kernel
theorem dL_law_159 : decode cL_law 159 = .ok (.iload_n 3, 1) := by decide +kernel
theorem dL_law_160 : decode cL_law 160 = .ok (.iconst 1, 1) := by decide +kernel
theorem dL_law_161 : decode cL_law 161 = .ok (.iadd, 1) := by decide +kernel
theorem dL_law_162 : decode cL_law 162 = .ok (.iaload, 1) := by decide +kernel
theorem dL_law_163 : decode cL_law 163 = .ok (.invokevirtual 17, 3) := by decide +kernel
theorem dL_law_166 : decode cL_law 166 = .ok (.if_icmp .eq 783, 3) := by decide +kernel
theorem dL_law_169 : decode cL_law 169 = .ok (.iconst 0, 1) := by decide +kernel
theorem dL_law_170 : decode cL_law 170 = .ok (.ireturn, 1) := by decide +kernel
theorem dL_law_171 : decode cL_law 171 = .ok (.aload_n 1, 1) := by decide +kernel
theorem dL_law_172 : decode cL_law 172 = .ok (.aload_n 0, 1) := by decide +kernel
theorem dL_law_173 : decode cL_law 173 = .ok (.iload_n 3, 1) := by decide +kernel
theorem dL_law_174 : decode cL_law 174 = .ok (.iconst 1, 1) := by decide +kernel
theorem dL_law_175 : decode cL_law 175 = .ok (.iadd, 1) := by decide +kernel
theorem dL_law_176 : decode cL_law 176 = .ok (.iaload, 1) := by decide +kernel
theorem dL_law_177 : decode cL_law 177 = .ok (.aload_n 0, 1) := by decide +kernel
theorem dL_law_178 : decode cL_law 178 = .ok (.iload_n 3, 1) := by decide +kernel
theorem dL_law_179 : decode cL_law 179 = .ok (.iconst 2, 1) := by decide +kernel
theorem dL_law_180 : decode cL_law 180 = .ok (.iadd, 1) := by decide +kernel
theorem dL_law_181 : decode cL_law 181 = .ok (.iaload, 1) := by decide +kernel
theorem dL_law_182 : decode cL_law 182 = .ok (.aload_n 0, 1) := by decide +kernel
theorem dL_law_183 : decode cL_law 183 = .ok (.iload_n 3, 1) := by decide +kernel
theorem dL_law_184 : decode cL_law 184 = .ok (.iconst 3, 1) := by decide +kernel
theorem dL_law_185 : decode cL_law 185 = .ok (.iadd, 1) := by decide +kernel
theorem dL_law_186 : decode cL_law 186 = .ok (.iaload, 1) := by decide +kernel
theorem dL_law_187 : decode cL_law 187 = .ok (.invokevirtual 18, 3) := by decide +kernel
theorem dL_law_190 : decode cL_law 190 = .ok (.aload_n 2, 1) := by decide +kernel
theorem dL_law_191 : decode cL_law 191 = .ok (.aload_n 0, 1) := by decide +kernel
theorem dL_law_192 : decode cL_law 192 = .ok (.iload_n 3, 1) := by decide +kernel
theorem dL_law_193 : decode cL_law 193 = .ok (.iconst 1, 1) := by decide +kernel
theorem dL_law_194 : decode cL_law 194 = .ok (.iadd, 1) := by decide +kernel
theorem dL_law_195 : decode cL_law 195 = .ok (.iaload, 1) := by decide +kernel
theorem dL_law_196 : decode cL_law 196 = .ok (.aload_n 0, 1) := by decide +kernel
theorem dL_law_197 : decode cL_law 197 = .ok (.iload_n 3, 1) := by decide +kernel
theorem dL_law_198 : decode cL_law 198 = .ok (.iconst 2, 1) := by decide +kernel
theorem dL_law_199 : decode cL_law 199 = .ok (.iadd, 1) := by decide +kernel
theorem dL_law_200 : decode cL_law 200 = .ok (.iaload, 1) := by decide +kernel
theorem dL_law_201 : decode cL_law 201 = .ok (.aload_n 0, 1) := by decide +kernel
theorem dL_law_202 : decode cL_law 202 = .ok (.iload_n 3, 1) := by decide +kernel
theorem dL_law_203 : decode cL_law 203 = .ok (.iconst 3, 1) := by decide +kernel
theorem dL_law_204 : decode cL_law 204 = .ok (.iadd, 1) := by decide +kernel
theorem dL_law_205 : decode cL_law 205 = .ok (.iaload, 1) := by decide +kernel
theorem dL_law_206 : decode cL_law 206 = .ok (.invokevirtual 22, 3) := by decide +kernel
theorem dL_law_209 : decode cL_law 209 = .ok (.if_icmp .eq 740, 3) := by decide +kernel
theorem dL_law_212 : decode cL_law 212 = .ok (.iconst 0, 1) := by decide +kernel
theorem dL_law_213 : decode cL_law 213 = .ok (.ireturn, 1) := by decide +kernel
theorem dL_law_214 : decode cL_law 214 = .ok (.aload_n 1, 1) := by decide +kernel
theorem dL_law_215 : decode cL_law 215 = .ok (.aload_n 0, 1) := by decide +kernel
theorem dL_law_216 : decode cL_law 216 = .ok (.iload_n 3, 1) := by decide +kernel
theorem dL_law_217 : decode cL_law 217 = .ok (.iconst 1, 1) := by decide +kernel
theorem dL_law_218 : decode cL_law 218 = .ok (.iadd, 1) := by decide +kernel
theorem dL_law_219 : decode cL_law 219 = .ok (.iaload, 1) := by decide +kernel
theorem dL_law_220 : decode cL_law 220 = .ok (.invokevirtual 23, 3) := by decide +kernel
theorem dL_law_223 : decode cL_law 223 = .ok (.aload_n 2, 1) := by decide +kernel
theorem dL_law_224 : decode cL_law 224 = .ok (.aload_n 0, 1) := by decide +kernel
theorem dL_law_225 : decode cL_law 225 = .ok (.iload_n 3, 1) := by decide +kernel
theorem dL_law_226 : decode cL_law 226 = .ok (.iconst 1, 1) := by decide +kernel
theorem dL_law_227 : decode cL_law 227 = .ok (.iadd, 1) := by decide +kernel
theorem dL_law_228 : decode cL_law 228 = .ok (.iaload, 1) := by decide +kernel
theorem dL_law_229 : decode cL_law 229 = .ok (.invokevirtual 27, 3) := by decide +kernel
theorem dL_law_232 : decode cL_law 232 = .ok (.lcmp, 1) := by decide +kernel
theorem dL_law_233 : decode cL_law 233 = .ok (.ifCond .eq 716, 3) := by decide +kernel
theorem dL_law_236 : decode cL_law 236 = .ok (.iconst 0, 1) := by decide +kernel
theorem dL_law_237 : decode cL_law 237 = .ok (.ireturn, 1) := by decide +kernel
theorem dL_law_238 : decode cL_law 238 = .ok (.aload_n 1, 1) := by decide +kernel
theorem dL_law_239 : decode cL_law 239 = .ok (.aload_n 0, 1) := by decide +kernel
theorem dL_law_240 : decode cL_law 240 = .ok (.iload_n 3, 1) := by decide +kernel
theorem dL_law_241 : decode cL_law 241 = .ok (.iconst 1, 1) := by decide +kernel
theorem dL_law_242 : decode cL_law 242 = .ok (.iadd, 1) := by decide +kernel
theorem dL_law_243 : decode cL_law 243 = .ok (.iaload, 1) := by decide +kernel
theorem dL_law_244 : decode cL_law 244 = .ok (.aload_n 0, 1) := by decide +kernel
theorem dL_law_245 : decode cL_law 245 = .ok (.iload_n 3, 1) := by decide +kernel
theorem dL_law_246 : decode cL_law 246 = .ok (.iconst 2, 1) := by decide +kernel
theorem dL_law_247 : decode cL_law 247 = .ok (.iadd, 1) := by decide +kernel
theorem dL_law_248 : decode cL_law 248 = .ok (.iaload, 1) := by decide +kernel
theorem dL_law_249 : decode cL_law 249 = .ok (.invokevirtual 28, 3) := by decide +kernel
theorem dL_law_252 : decode cL_law 252 = .ok (.aload_n 2, 1) := by decide +kernel
theorem dL_law_253 : decode cL_law 253 = .ok (.aload_n 0, 1) := by decide +kernel
theorem dL_law_254 : decode cL_law 254 = .ok (.iload_n 3, 1) := by decide +kernel
theorem dL_law_255 : decode cL_law 255 = .ok (.iconst 1, 1) := by decide +kernel
theorem dL_law_256 : decode cL_law 256 = .ok (.iadd, 1) := by decide +kernel
theorem dL_law_257 : decode cL_law 257 = .ok (.iaload, 1) := by decide +kernel
theorem dL_law_258 : decode cL_law 258 = .ok (.aload_n 0, 1) := by decide +kernel
theorem dL_law_259 : decode cL_law 259 = .ok (.iload_n 3, 1) := by decide +kernel
theorem dL_law_260 : decode cL_law 260 = .ok (.iconst 2, 1) := by decide +kernel
theorem dL_law_261 : decode cL_law 261 = .ok (.iadd, 1) := by decide +kernel
theorem dL_law_262 : decode cL_law 262 = .ok (.iaload, 1) := by decide +kernel
theorem dL_law_263 : decode cL_law 263 = .ok (.invokevirtual 32, 3) := by decide +kernel
theorem dL_law_266 : decode cL_law 266 = .ok (.if_icmp .eq 683, 3) := by decide +kernel
theorem dL_law_269 : decode cL_law 269 = .ok (.iconst 0, 1) := by decide +kernel
theorem dL_law_270 : decode cL_law 270 = .ok (.ireturn, 1) := by decide +kernel
theorem dL_law_271 : decode cL_law 271 = .ok (.aload_n 1, 1) := by decide +kernel
theorem dL_law_272 : decode cL_law 272 = .ok (.aload_n 0, 1) := by decide +kernel
theorem dL_law_273 : decode cL_law 273 = .ok (.iload_n 3, 1) := by decide +kernel
theorem dL_law_274 : decode cL_law 274 = .ok (.iconst 1, 1) := by decide +kernel
theorem dL_law_275 : decode cL_law 275 = .ok (.iadd, 1) := by decide +kernel
theorem dL_law_276 : decode cL_law 276 = .ok (.iaload, 1) := by decide +kernel
theorem dL_law_277 : decode cL_law 277 = .ok (.aload_n 0, 1) := by decide +kernel
theorem dL_law_278 : decode cL_law 278 = .ok (.iload_n 3, 1) := by decide +kernel
theorem dL_law_279 : decode cL_law 279 = .ok (.iconst 2, 1) := by decide +kernel
theorem dL_law_280 : decode cL_law 280 = .ok (.iadd, 1) := by decide +kernel
theorem dL_law_281 : decode cL_law 281 = .ok (.iaload, 1) := by decide +kernel
theorem dL_law_282 : decode cL_law 282 = .ok (.invokevirtual 33, 3) := by decide +kernel
theorem dL_law_285 : decode cL_law 285 = .ok (.aload_n 2, 1) := by decide +kernel
theorem dL_law_286 : decode cL_law 286 = .ok (.aload_n 0, 1) := by decide +kernel
theorem dL_law_287 : decode cL_law 287 = .ok (.iload_n 3, 1) := by decide +kernel
theorem dL_law_288 : decode cL_law 288 = .ok (.iconst 1, 1) := by decide +kernel
theorem dL_law_289 : decode cL_law 289 = .ok (.iadd, 1) := by decide +kernel
theorem dL_law_290 : decode cL_law 290 = .ok (.iaload, 1) := by decide +kernel
theorem dL_law_291 : decode cL_law 291 = .ok (.aload_n 0, 1) := by decide +kernel
theorem dL_law_292 : decode cL_law 292 = .ok (.iload_n 3, 1) := by decide +kernel
theorem dL_law_293 : decode cL_law 293 = .ok (.iconst 2, 1) := by decide +kernel
theorem dL_law_294 : decode cL_law 294 = .ok (.iadd, 1) := by decide +kernel
theorem dL_law_295 : decode cL_law 295 = .ok (.iaload, 1) := by decide +kernel
theorem dL_law_296 : decode cL_law 296 = .ok (.invokevirtual 36, 3) := by decide +kernel
theorem dL_law_299 : decode cL_law 299 = .ok (.if_icmp .eq 650, 3) := by decide +kernel
theorem dL_law_302 : decode cL_law 302 = .ok (.iconst 0, 1) := by decide +kernel
theorem dL_law_303 : decode cL_law 303 = .ok (.ireturn, 1) := by decide +kernel
theorem dL_law_304 : decode cL_law 304 = .ok (.aload_n 1, 1) := by decide +kernel
theorem dL_law_305 : decode cL_law 305 = .ok (.aload_n 0, 1) := by decide +kernel
theorem dL_law_306 : decode cL_law 306 = .ok (.iload_n 3, 1) := by decide +kernel
theorem dL_law_307 : decode cL_law 307 = .ok (.iconst 1, 1) := by decide +kernel
theorem dL_law_308 : decode cL_law 308 = .ok (.iadd, 1) := by decide +kernel
theorem dL_law_309 : decode cL_law 309 = .ok (.iaload, 1) := by decide +kernel
theorem dL_law_310 : decode cL_law 310 = .ok (.invokevirtual 37, 3) := by decide +kernel
theorem dL_law_313 : decode cL_law 313 = .ok (.aload_n 2, 1) := by decide +kernel
theorem dL_law_314 : decode cL_law 314 = .ok (.aload_n 0, 1) := by decide +kernel
theorem dL_law_315 : decode cL_law 315 = .ok (.iload_n 3, 1) := by decide +kernel
theorem dL_law_316 : decode cL_law 316 = .ok (.iconst 1, 1) := by decide +kernel
theorem dL_law_317 : decode cL_law 317 = .ok (.iadd, 1) := by decide +kernel
theorem dL_law_318 : decode cL_law 318 = .ok (.iaload, 1) := by decide +kernel
theorem dL_law_319 : decode cL_law 319 = .ok (.invokevirtual 40, 3) := by decide +kernel
theorem dL_law_322 : decode cL_law 322 = .ok (.if_icmp .eq 627, 3) := by decide +kernel
theorem dL_law_325 : decode cL_law 325 = .ok (.iconst 0, 1) := by decide +kernel
theorem dL_law_326 : decode cL_law 326 = .ok (.ireturn, 1) := by decide +kernel
theorem dL_law_327 : decode cL_law 327 = .ok (.aload_n 1, 1) := by decide +kernel
theorem dL_law_328 : decode cL_law 328 = .ok (.invokevirtual 41, 3) := by decide +kernel
theorem dL_law_331 : decode cL_law 331 = .ok (.aload_n 2, 1) := by decide +kernel
theorem dL_law_332 : decode cL_law 332 = .ok (.invokevirtual 45, 3) := by decide +kernel
theorem dL_law_335 : decode cL_law 335 = .ok (.if_icmp .eq 614, 3) := by decide +kernel
theorem dL_law_338 : decode cL_law 338 = .ok (.iconst 0, 1) := by decide +kernel
theorem dL_law_339 : decode cL_law 339 = .ok (.ireturn, 1) := by decide +kernel
theorem dL_law_340 : decode cL_law 340 = .ok (.aload_n 1, 1) := by decide +kernel
theorem dL_law_341 : decode cL_law 341 = .ok (.aload_n 0, 1) := by decide +kernel
theorem dL_law_342 : decode cL_law 342 = .ok (.iload_n 3, 1) := by decide +kernel
theorem dL_law_343 : decode cL_law 343 = .ok (.iconst 1, 1) := by decide +kernel
theorem dL_law_344 : decode cL_law 344 = .ok (.iadd, 1) := by decide +kernel
theorem dL_law_345 : decode cL_law 345 = .ok (.iaload, 1) := by decide +kernel
theorem dL_law_346 : decode cL_law 346 = .ok (.aload_n 0, 1) := by decide +kernel
theorem dL_law_347 : decode cL_law 347 = .ok (.iload_n 3, 1) := by decide +kernel
theorem dL_law_348 : decode cL_law 348 = .ok (.iconst 2, 1) := by decide +kernel
theorem dL_law_349 : decode cL_law 349 = .ok (.iadd, 1) := by decide +kernel
theorem dL_law_350 : decode cL_law 350 = .ok (.iaload, 1) := by decide +kernel
theorem dL_law_351 : decode cL_law 351 = .ok (.invokevirtual 46, 3) := by decide +kernel
theorem dL_law_354 : decode cL_law 354 = .ok (.aload_n 2, 1) := by decide +kernel
theorem dL_law_355 : decode cL_law 355 = .ok (.aload_n 0, 1) := by decide +kernel
theorem dL_law_356 : decode cL_law 356 = .ok (.iload_n 3, 1) := by decide +kernel
theorem dL_law_357 : decode cL_law 357 = .ok (.iconst 1, 1) := by decide +kernel
theorem dL_law_358 : decode cL_law 358 = .ok (.iadd, 1) := by decide +kernel
theorem dL_law_359 : decode cL_law 359 = .ok (.iaload, 1) := by decide +kernel
theorem dL_law_360 : decode cL_law 360 = .ok (.aload_n 0, 1) := by decide +kernel
theorem dL_law_361 : decode cL_law 361 = .ok (.iload_n 3, 1) := by decide +kernel
theorem dL_law_362 : decode cL_law 362 = .ok (.iconst 2, 1) := by decide +kernel
theorem dL_law_363 : decode cL_law 363 = .ok (.iadd, 1) := by decide +kernel
theorem dL_law_364 : decode cL_law 364 = .ok (.iaload, 1) := by decide +kernel
theorem dL_law_365 : decode cL_law 365 = .ok (.invokevirtual 49, 3) := by decide +kernel
theorem dL_law_368 : decode cL_law 368 = .ok (.if_icmp .eq 581, 3) := by decide +kernel
theorem dL_law_371 : decode cL_law 371 = .ok (.iconst 0, 1) := by decide +kernel
theorem dL_law_372 : decode cL_law 372 = .ok (.ireturn, 1) := by decide +kernel
theorem dL_law_373 : decode cL_law 373 = .ok (.aload_n 1, 1) := by decide +kernel
theorem dL_law_374 : decode cL_law 374 = .ok (.aload_n 0, 1) := by decide +kernel
theorem dL_law_375 : decode cL_law 375 = .ok (.iload_n 3, 1) := by decide +kernel
theorem dL_law_376 : decode cL_law 376 = .ok (.iconst 1, 1) := by decide +kernel
theorem dL_law_377 : decode cL_law 377 = .ok (.iadd, 1) := by decide +kernel
theorem dL_law_378 : decode cL_law 378 = .ok (.iaload, 1) := by decide +kernel
theorem dL_law_379 : decode cL_law 379 = .ok (.aload_n 0, 1) := by decide +kernel
theorem dL_law_380 : decode cL_law 380 = .ok (.iload_n 3, 1) := by decide +kernel
theorem dL_law_381 : decode cL_law 381 = .ok (.iconst 2, 1) := by decide +kernel
theorem dL_law_382 : decode cL_law 382 = .ok (.iadd, 1) := by decide +kernel
theorem dL_law_383 : decode cL_law 383 = .ok (.iaload, 1) := by decide +kernel
theorem dL_law_384 : decode cL_law 384 = .ok (.aload_n 0, 1) := by decide +kernel
theorem dL_law_385 : decode cL_law 385 = .ok (.iload_n 3, 1) := by decide +kernel
theorem dL_law_386 : decode cL_law 386 = .ok (.iconst 3, 1) := by decide +kernel
theorem dL_law_387 : decode cL_law 387 = .ok (.iadd, 1) := by decide +kernel
theorem dL_law_388 : decode cL_law 388 = .ok (.iaload, 1) := by decide +kernel
theorem dL_law_389 : decode cL_law 389 = .ok (.aload_n 0, 1) := by decide +kernel
theorem dL_law_390 : decode cL_law 390 = .ok (.iload_n 3, 1) := by decide +kernel
theorem dL_law_391 : decode cL_law 391 = .ok (.iconst 4, 1) := by decide +kernel
theorem dL_law_392 : decode cL_law 392 = .ok (.iadd, 1) := by decide +kernel
theorem dL_law_393 : decode cL_law 393 = .ok (.iaload, 1) := by decide +kernel
theorem dL_law_394 : decode cL_law 394 = .ok (.aload_n 0, 1) := by decide +kernel
theorem dL_law_395 : decode cL_law 395 = .ok (.iload_n 3, 1) := by decide +kernel
theorem dL_law_396 : decode cL_law 396 = .ok (.iconst 5, 1) := by decide +kernel
theorem dL_law_397 : decode cL_law 397 = .ok (.iadd, 1) := by decide +kernel
theorem dL_law_398 : decode cL_law 398 = .ok (.iaload, 1) := by decide +kernel
theorem dL_law_399 : decode cL_law 399 = .ok (.invokevirtual 50, 3) := by decide +kernel
theorem dL_law_402 : decode cL_law 402 = .ok (.aload_n 2, 1) := by decide +kernel
theorem dL_law_403 : decode cL_law 403 = .ok (.aload_n 0, 1) := by decide +kernel
theorem dL_law_404 : decode cL_law 404 = .ok (.iload_n 3, 1) := by decide +kernel
theorem dL_law_405 : decode cL_law 405 = .ok (.iconst 1, 1) := by decide +kernel
theorem dL_law_406 : decode cL_law 406 = .ok (.iadd, 1) := by decide +kernel
theorem dL_law_407 : decode cL_law 407 = .ok (.iaload, 1) := by decide +kernel
theorem dL_law_408 : decode cL_law 408 = .ok (.aload_n 0, 1) := by decide +kernel
theorem dL_law_409 : decode cL_law 409 = .ok (.iload_n 3, 1) := by decide +kernel
theorem dL_law_410 : decode cL_law 410 = .ok (.iconst 2, 1) := by decide +kernel
theorem dL_law_411 : decode cL_law 411 = .ok (.iadd, 1) := by decide +kernel
theorem dL_law_412 : decode cL_law 412 = .ok (.iaload, 1) := by decide +kernel
theorem dL_law_413 : decode cL_law 413 = .ok (.aload_n 0, 1) := by decide +kernel
theorem dL_law_414 : decode cL_law 414 = .ok (.iload_n 3, 1) := by decide +kernel
theorem dL_law_415 : decode cL_law 415 = .ok (.iconst 3, 1) := by decide +kernel
theorem dL_law_416 : decode cL_law 416 = .ok (.iadd, 1) := by decide +kernel
theorem dL_law_417 : decode cL_law 417 = .ok (.iaload, 1) := by decide +kernel
theorem dL_law_418 : decode cL_law 418 = .ok (.aload_n 0, 1) := by decide +kernel
theorem dL_law_419 : decode cL_law 419 = .ok (.iload_n 3, 1) := by decide +kernel
theorem dL_law_420 : decode cL_law 420 = .ok (.iconst 4, 1) := by decide +kernel
theorem dL_law_421 : decode cL_law 421 = .ok (.iadd, 1) := by decide +kernel
theorem dL_law_422 : decode cL_law 422 = .ok (.iaload, 1) := by decide +kernel
theorem dL_law_423 : decode cL_law 423 = .ok (.aload_n 0, 1) := by decide +kernel
theorem dL_law_424 : decode cL_law 424 = .ok (.iload_n 3, 1) := by decide +kernel
theorem dL_law_425 : decode cL_law 425 = .ok (.iconst 5, 1) := by decide +kernel
theorem dL_law_426 : decode cL_law 426 = .ok (.iadd, 1) := by decide +kernel
theorem dL_law_427 : decode cL_law 427 = .ok (.iaload, 1) := by decide +kernel
theorem dL_law_428 : decode cL_law 428 = .ok (.invokevirtual 54, 3) := by decide +kernel
theorem dL_law_431 : decode cL_law 431 = .ok (.if_icmp .eq 518, 3) := by decide +kernel
theorem dL_law_434 : decode cL_law 434 = .ok (.iconst 0, 1) := by decide +kernel
theorem dL_law_435 : decode cL_law 435 = .ok (.ireturn, 1) := by decide +kernel
theorem dL_law_436 : decode cL_law 436 = .ok (.aload_n 1, 1) := by decide +kernel
theorem dL_law_437 : decode cL_law 437 = .ok (.aload_n 0, 1) := by decide +kernel
theorem dL_law_438 : decode cL_law 438 = .ok (.iload_n 3, 1) := by decide +kernel
theorem dL_law_439 : decode cL_law 439 = .ok (.iconst 1, 1) := by decide +kernel
theorem dL_law_440 : decode cL_law 440 = .ok (.iadd, 1) := by decide +kernel
theorem dL_law_441 : decode cL_law 441 = .ok (.iaload, 1) := by decide +kernel
theorem dL_law_442 : decode cL_law 442 = .ok (.aload_n 0, 1) := by decide +kernel
theorem dL_law_443 : decode cL_law 443 = .ok (.iload_n 3, 1) := by decide +kernel
theorem dL_law_444 : decode cL_law 444 = .ok (.iconst 2, 1) := by decide +kernel
theorem dL_law_445 : decode cL_law 445 = .ok (.iadd, 1) := by decide +kernel
theorem dL_law_446 : decode cL_law 446 = .ok (.iaload, 1) := by decide +kernel
theorem dL_law_447 : decode cL_law 447 = .ok (.invokevirtual 55, 3) := by decide +kernel
theorem dL_law_450 : decode cL_law 450 = .ok (.aload_n 2, 1) := by decide +kernel
theorem dL_law_451 : decode cL_law 451 = .ok (.aload_n 0, 1) := by decide +kernel
theorem dL_law_452 : decode cL_law 452 = .ok (.iload_n 3, 1) := by decide +kernel
theorem dL_law_453 : decode cL_law 453 = .ok (.iconst 1, 1) := by decide +kernel
theorem dL_law_454 : decode cL_law 454 = .ok (.iadd, 1) := by decide +kernel
theorem dL_law_455 : decode cL_law 455 = .ok (.iaload, 1) := by decide +kernel
theorem dL_law_456 : decode cL_law 456 = .ok (.aload_n 0, 1) := by decide +kernel
theorem dL_law_457 : decode cL_law 457 = .ok (.iload_n 3, 1) := by decide +kernel
theorem dL_law_458 : decode cL_law 458 = .ok (.iconst 2, 1) := by decide +kernel
theorem dL_law_459 : decode cL_law 459 = .ok (.iadd, 1) := by decide +kernel
theorem dL_law_460 : decode cL_law 460 = .ok (.iaload, 1) := by decide +kernel
theorem dL_law_461 : decode cL_law 461 = .ok (.invokevirtual 59, 3) := by decide +kernel
theorem dL_law_464 : decode cL_law 464 = .ok (.lcmp, 1) := by decide +kernel
theorem dL_law_465 : decode cL_law 465 = .ok (.ifCond .eq 484, 3) := by decide +kernel
theorem dL_law_468 : decode cL_law 468 = .ok (.iconst 0, 1) := by decide +kernel
theorem dL_law_469 : decode cL_law 469 = .ok (.ireturn, 1) := by decide +kernel
theorem dL_law_470 : decode cL_law 470 = .ok (.aload_n 1, 1) := by decide +kernel
theorem dL_law_471 : decode cL_law 471 = .ok (.aload_n 0, 1) := by decide +kernel
theorem dL_law_472 : decode cL_law 472 = .ok (.iload_n 3, 1) := by decide +kernel
theorem dL_law_473 : decode cL_law 473 = .ok (.iconst 1, 1) := by decide +kernel
theorem dL_law_474 : decode cL_law 474 = .ok (.iadd, 1) := by decide +kernel
theorem dL_law_475 : decode cL_law 475 = .ok (.iaload, 1) := by decide +kernel
theorem dL_law_476 : decode cL_law 476 = .ok (.invokevirtual 60, 3) := by decide +kernel
theorem dL_law_479 : decode cL_law 479 = .ok (.aload_n 2, 1) := by decide +kernel
theorem dL_law_480 : decode cL_law 480 = .ok (.aload_n 0, 1) := by decide +kernel
theorem dL_law_481 : decode cL_law 481 = .ok (.iload_n 3, 1) := by decide +kernel
theorem dL_law_482 : decode cL_law 482 = .ok (.iconst 1, 1) := by decide +kernel
theorem dL_law_483 : decode cL_law 483 = .ok (.iadd, 1) := by decide +kernel
theorem dL_law_484 : decode cL_law 484 = .ok (.iaload, 1) := by decide +kernel
theorem dL_law_485 : decode cL_law 485 = .ok (.invokevirtual 63, 3) := by decide +kernel
theorem dL_law_488 : decode cL_law 488 = .ok (.if_icmp .eq 461, 3) := by decide +kernel
theorem dL_law_491 : decode cL_law 491 = .ok (.iconst 0, 1) := by decide +kernel
theorem dL_law_492 : decode cL_law 492 = .ok (.ireturn, 1) := by decide +kernel
theorem dL_law_493 : decode cL_law 493 = .ok (.aload_n 1, 1) := by decide +kernel
theorem dL_law_494 : decode cL_law 494 = .ok (.invokevirtual 64, 3) := by decide +kernel
theorem dL_law_497 : decode cL_law 497 = .ok (.aload_n 2, 1) := by decide +kernel
theorem dL_law_498 : decode cL_law 498 = .ok (.invokevirtual 67, 3) := by decide +kernel
theorem dL_law_501 : decode cL_law 501 = .ok (.if_icmp .eq 448, 3) := by decide +kernel
theorem dL_law_504 : decode cL_law 504 = .ok (.iconst 0, 1) := by decide +kernel
theorem dL_law_505 : decode cL_law 505 = .ok (.ireturn, 1) := by decide +kernel
theorem dL_law_506 : decode cL_law 506 = .ok (.aload_n 1, 1) := by decide +kernel
theorem dL_law_507 : decode cL_law 507 = .ok (.aload_n 0, 1) := by decide +kernel
theorem dL_law_508 : decode cL_law 508 = .ok (.iload_n 3, 1) := by decide +kernel
theorem dL_law_509 : decode cL_law 509 = .ok (.iconst 1, 1) := by decide +kernel
theorem dL_law_510 : decode cL_law 510 = .ok (.iadd, 1) := by decide +kernel
theorem dL_law_511 : decode cL_law 511 = .ok (.iaload, 1) := by decide +kernel
theorem dL_law_512 : decode cL_law 512 = .ok (.invokevirtual 68, 3) := by decide +kernel
theorem dL_law_515 : decode cL_law 515 = .ok (.aload_n 2, 1) := by decide +kernel
theorem dL_law_516 : decode cL_law 516 = .ok (.aload_n 0, 1) := by decide +kernel
theorem dL_law_517 : decode cL_law 517 = .ok (.iload_n 3, 1) := by decide +kernel
theorem dL_law_518 : decode cL_law 518 = .ok (.iconst 1, 1) := by decide +kernel
theorem dL_law_519 : decode cL_law 519 = .ok (.iadd, 1) := by decide +kernel
theorem dL_law_520 : decode cL_law 520 = .ok (.iaload, 1) := by decide +kernel
theorem dL_law_521 : decode cL_law 521 = .ok (.invokevirtual 71, 3) := by decide +kernel
theorem dL_law_524 : decode cL_law 524 = .ok (.if_icmp .eq 425, 3) := by decide +kernel
theorem dL_law_527 : decode cL_law 527 = .ok (.iconst 0, 1) := by decide +kernel
theorem dL_law_528 : decode cL_law 528 = .ok (.ireturn, 1) := by decide +kernel
theorem dL_law_529 : decode cL_law 529 = .ok (.aload_n 1, 1) := by decide +kernel
theorem dL_law_530 : decode cL_law 530 = .ok (.aload_n 0, 1) := by decide +kernel
theorem dL_law_531 : decode cL_law 531 = .ok (.iload_n 3, 1) := by decide +kernel
theorem dL_law_532 : decode cL_law 532 = .ok (.iconst 1, 1) := by decide +kernel
theorem dL_law_533 : decode cL_law 533 = .ok (.iadd, 1) := by decide +kernel
theorem dL_law_534 : decode cL_law 534 = .ok (.iaload, 1) := by decide +kernel
theorem dL_law_535 : decode cL_law 535 = .ok (.aload_n 0, 1) := by decide +kernel
theorem dL_law_536 : decode cL_law 536 = .ok (.iload_n 3, 1) := by decide +kernel
theorem dL_law_537 : decode cL_law 537 = .ok (.iconst 2, 1) := by decide +kernel
theorem dL_law_538 : decode cL_law 538 = .ok (.iadd, 1) := by decide +kernel
theorem dL_law_539 : decode cL_law 539 = .ok (.iaload, 1) := by decide +kernel
theorem dL_law_540 : decode cL_law 540 = .ok (.aload_n 0, 1) := by decide +kernel
theorem dL_law_541 : decode cL_law 541 = .ok (.iload_n 3, 1) := by decide +kernel
theorem dL_law_542 : decode cL_law 542 = .ok (.iconst 3, 1) := by decide +kernel
theorem dL_law_543 : decode cL_law 543 = .ok (.iadd, 1) := by decide +kernel
theorem dL_law_544 : decode cL_law 544 = .ok (.iaload, 1) := by decide +kernel
theorem dL_law_545 : decode cL_law 545 = .ok (.invokevirtual 72, 3) := by decide +kernel
theorem dL_law_548 : decode cL_law 548 = .ok (.aload_n 2, 1) := by decide +kernel
theorem dL_law_549 : decode cL_law 549 = .ok (.aload_n 0, 1) := by decide +kernel
theorem dL_law_550 : decode cL_law 550 = .ok (.iload_n 3, 1) := by decide +kernel
theorem dL_law_551 : decode cL_law 551 = .ok (.iconst 1, 1) := by decide +kernel
theorem dL_law_552 : decode cL_law 552 = .ok (.iadd, 1) := by decide +kernel
theorem dL_law_553 : decode cL_law 553 = .ok (.iaload, 1) := by decide +kernel
theorem dL_law_554 : decode cL_law 554 = .ok (.aload_n 0, 1) := by decide +kernel
theorem dL_law_555 : decode cL_law 555 = .ok (.iload_n 3, 1) := by decide +kernel
theorem dL_law_556 : decode cL_law 556 = .ok (.iconst 2, 1) := by decide +kernel
theorem dL_law_557 : decode cL_law 557 = .ok (.iadd, 1) := by decide +kernel
theorem dL_law_558 : decode cL_law 558 = .ok (.iaload, 1) := by decide +kernel
theorem dL_law_559 : decode cL_law 559 = .ok (.aload_n 0, 1) := by decide +kernel
theorem dL_law_560 : decode cL_law 560 = .ok (.iload_n 3, 1) := by decide +kernel
theorem dL_law_561 : decode cL_law 561 = .ok (.iconst 3, 1) := by decide +kernel
theorem dL_law_562 : decode cL_law 562 = .ok (.iadd, 1) := by decide +kernel
theorem dL_law_563 : decode cL_law 563 = .ok (.iaload, 1) := by decide +kernel
theorem dL_law_564 : decode cL_law 564 = .ok (.invokevirtual 75, 3) := by decide +kernel
theorem dL_law_567 : decode cL_law 567 = .ok (.if_icmp .eq 382, 3) := by decide +kernel
theorem dL_law_570 : decode cL_law 570 = .ok (.iconst 0, 1) := by decide +kernel
theorem dL_law_571 : decode cL_law 571 = .ok (.ireturn, 1) := by decide +kernel
theorem dL_law_572 : decode cL_law 572 = .ok (.aload_n 1, 1) := by decide +kernel
theorem dL_law_573 : decode cL_law 573 = .ok (.aload_n 0, 1) := by decide +kernel
theorem dL_law_574 : decode cL_law 574 = .ok (.iload_n 3, 1) := by decide +kernel
theorem dL_law_575 : decode cL_law 575 = .ok (.iconst 1, 1) := by decide +kernel
theorem dL_law_576 : decode cL_law 576 = .ok (.iadd, 1) := by decide +kernel
theorem dL_law_577 : decode cL_law 577 = .ok (.iaload, 1) := by decide +kernel
theorem dL_law_578 : decode cL_law 578 = .ok (.aload_n 0, 1) := by decide +kernel
theorem dL_law_579 : decode cL_law 579 = .ok (.iload_n 3, 1) := by decide +kernel
theorem dL_law_580 : decode cL_law 580 = .ok (.iconst 2, 1) := by decide +kernel
theorem dL_law_581 : decode cL_law 581 = .ok (.iadd, 1) := by decide +kernel
theorem dL_law_582 : decode cL_law 582 = .ok (.iaload, 1) := by decide +kernel
theorem dL_law_583 : decode cL_law 583 = .ok (.aload_n 0, 1) := by decide +kernel
theorem dL_law_584 : decode cL_law 584 = .ok (.iload_n 3, 1) := by decide +kernel
theorem dL_law_585 : decode cL_law 585 = .ok (.iconst 3, 1) := by decide +kernel
theorem dL_law_586 : decode cL_law 586 = .ok (.iadd, 1) := by decide +kernel
theorem dL_law_587 : decode cL_law 587 = .ok (.iaload, 1) := by decide +kernel
theorem dL_law_588 : decode cL_law 588 = .ok (.aload_n 0, 1) := by decide +kernel
theorem dL_law_589 : decode cL_law 589 = .ok (.iload_n 3, 1) := by decide +kernel
theorem dL_law_590 : decode cL_law 590 = .ok (.iconst 4, 1) := by decide +kernel
theorem dL_law_591 : decode cL_law 591 = .ok (.iadd, 1) := by decide +kernel
theorem dL_law_592 : decode cL_law 592 = .ok (.iaload, 1) := by decide +kernel
theorem dL_law_593 : decode cL_law 593 = .ok (.aload_n 0, 1) := by decide +kernel
theorem dL_law_594 : decode cL_law 594 = .ok (.iload_n 3, 1) := by decide +kernel
theorem dL_law_595 : decode cL_law 595 = .ok (.iconst 5, 1) := by decide +kernel
theorem dL_law_596 : decode cL_law 596 = .ok (.iadd, 1) := by decide +kernel
theorem dL_law_597 : decode cL_law 597 = .ok (.iaload, 1) := by decide +kernel
theorem dL_law_598 : decode cL_law 598 = .ok (.invokevirtual 76, 3) := by decide +kernel
theorem dL_law_601 : decode cL_law 601 = .ok (.aload_n 2, 1) := by decide +kernel
theorem dL_law_602 : decode cL_law 602 = .ok (.aload_n 0, 1) := by decide +kernel
theorem dL_law_603 : decode cL_law 603 = .ok (.iload_n 3, 1) := by decide +kernel
theorem dL_law_604 : decode cL_law 604 = .ok (.iconst 1, 1) := by decide +kernel
theorem dL_law_605 : decode cL_law 605 = .ok (.iadd, 1) := by decide +kernel
theorem dL_law_606 : decode cL_law 606 = .ok (.iaload, 1) := by decide +kernel
theorem dL_law_607 : decode cL_law 607 = .ok (.aload_n 0, 1) := by decide +kernel
theorem dL_law_608 : decode cL_law 608 = .ok (.iload_n 3, 1) := by decide +kernel
theorem dL_law_609 : decode cL_law 609 = .ok (.iconst 2, 1) := by decide +kernel
theorem dL_law_610 : decode cL_law 610 = .ok (.iadd, 1) := by decide +kernel
theorem dL_law_611 : decode cL_law 611 = .ok (.iaload, 1) := by decide +kernel
theorem dL_law_612 : decode cL_law 612 = .ok (.aload_n 0, 1) := by decide +kernel
theorem dL_law_613 : decode cL_law 613 = .ok (.iload_n 3, 1) := by decide +kernel
theorem dL_law_614 : decode cL_law 614 = .ok (.iconst 3, 1) := by decide +kernel
theorem dL_law_615 : decode cL_law 615 = .ok (.iadd, 1) := by decide +kernel
theorem dL_law_616 : decode cL_law 616 = .ok (.iaload, 1) := by decide +kernel
theorem dL_law_617 : decode cL_law 617 = .ok (.aload_n 0, 1) := by decide +kernel
theorem dL_law_618 : decode cL_law 618 = .ok (.iload_n 3, 1) := by decide +kernel
theorem dL_law_619 : decode cL_law 619 = .ok (.iconst 4, 1) := by decide +kernel
theorem dL_law_620 : decode cL_law 620 = .ok (.iadd, 1) := by decide +kernel
theorem dL_law_621 : decode cL_law 621 = .ok (.iaload, 1) := by decide +kernel
theorem dL_law_622 : decode cL_law 622 = .ok (.aload_n 0, 1) := by decide +kernel
theorem dL_law_623 : decode cL_law 623 = .ok (.iload_n 3, 1) := by decide +kernel
theorem dL_law_624 : decode cL_law 624 = .ok (.iconst 5, 1) := by decide +kernel
theorem dL_law_625 : decode cL_law 625 = .ok (.iadd, 1) := by decide +kernel
theorem dL_law_626 : decode cL_law 626 = .ok (.iaload, 1) := by decide +kernel
theorem dL_law_627 : decode cL_law 627 = .ok (.invokevirtual 79, 3) := by decide +kernel
theorem dL_law_630 : decode cL_law 630 = .ok (.if_icmp .eq 319, 3) := by decide +kernel
theorem dL_law_633 : decode cL_law 633 = .ok (.iconst 0, 1) := by decide +kernel
theorem dL_law_634 : decode cL_law 634 = .ok (.ireturn, 1) := by decide +kernel
theorem dL_law_635 : decode cL_law 635 = .ok (.aload_n 1, 1) := by decide +kernel
theorem dL_law_636 : decode cL_law 636 = .ok (.aload_n 0, 1) := by decide +kernel
theorem dL_law_637 : decode cL_law 637 = .ok (.iload_n 3, 1) := by decide +kernel
theorem dL_law_638 : decode cL_law 638 = .ok (.iconst 1, 1) := by decide +kernel
theorem dL_law_639 : decode cL_law 639 = .ok (.iadd, 1) := by decide +kernel
theorem dL_law_640 : decode cL_law 640 = .ok (.iaload, 1) := by decide +kernel
theorem dL_law_641 : decode cL_law 641 = .ok (.aload_n 0, 1) := by decide +kernel
theorem dL_law_642 : decode cL_law 642 = .ok (.iload_n 3, 1) := by decide +kernel
theorem dL_law_643 : decode cL_law 643 = .ok (.iconst 2, 1) := by decide +kernel
theorem dL_law_644 : decode cL_law 644 = .ok (.iadd, 1) := by decide +kernel
theorem dL_law_645 : decode cL_law 645 = .ok (.iaload, 1) := by decide +kernel
theorem dL_law_646 : decode cL_law 646 = .ok (.aload_n 0, 1) := by decide +kernel
theorem dL_law_647 : decode cL_law 647 = .ok (.iload_n 3, 1) := by decide +kernel
theorem dL_law_648 : decode cL_law 648 = .ok (.iconst 3, 1) := by decide +kernel
theorem dL_law_649 : decode cL_law 649 = .ok (.iadd, 1) := by decide +kernel
theorem dL_law_650 : decode cL_law 650 = .ok (.iaload, 1) := by decide +kernel
theorem dL_law_651 : decode cL_law 651 = .ok (.invokevirtual 80, 3) := by decide +kernel
theorem dL_law_654 : decode cL_law 654 = .ok (.aload_n 2, 1) := by decide +kernel
theorem dL_law_655 : decode cL_law 655 = .ok (.aload_n 0, 1) := by decide +kernel
theorem dL_law_656 : decode cL_law 656 = .ok (.iload_n 3, 1) := by decide +kernel
theorem dL_law_657 : decode cL_law 657 = .ok (.iconst 1, 1) := by decide +kernel
theorem dL_law_658 : decode cL_law 658 = .ok (.iadd, 1) := by decide +kernel
theorem dL_law_659 : decode cL_law 659 = .ok (.iaload, 1) := by decide +kernel
theorem dL_law_660 : decode cL_law 660 = .ok (.aload_n 0, 1) := by decide +kernel
theorem dL_law_661 : decode cL_law 661 = .ok (.iload_n 3, 1) := by decide +kernel
theorem dL_law_662 : decode cL_law 662 = .ok (.iconst 2, 1) := by decide +kernel
theorem dL_law_663 : decode cL_law 663 = .ok (.iadd, 1) := by decide +kernel
theorem dL_law_664 : decode cL_law 664 = .ok (.iaload, 1) := by decide +kernel
theorem dL_law_665 : decode cL_law 665 = .ok (.aload_n 0, 1) := by decide +kernel
theorem dL_law_666 : decode cL_law 666 = .ok (.iload_n 3, 1) := by decide +kernel
theorem dL_law_667 : decode cL_law 667 = .ok (.iconst 3, 1) := by decide +kernel
