set_option maxRecDepth 20000 in
theorem ggX8_bars_X8_mastBefore : GoodIn wsX8_bars wsX8_mastBefore := goodIn_r _ [23, 12, 46, 47, 48, 49, 50, 51, 52, 53, 54, 55, 56, 57, 58, 59, 60, 61, 62, 63, 64, 65, 66, 67, 68, 69, 70, 71, 72] (by decide +kernel) (by decide +kernel)
set_option maxRecDepth 20000 in
theorem gX8_bars_X8_mastBefore : GoodIn wsX8_bars (wsV RX8 136 RX8 yX8_mastBefore wsX8_mastBefore) := goodIn_app (goodIn_of _ (by decide +kernel)) ggX8_bars_X8_mastBefore
set_option maxRecDepth 20000 in
theorem ggX8_bars_X8_cutOf : GoodIn wsX8_bars wsX8_cutOf := goodIn_r _ [27, 28, 29, 30, 9, 31, 32, 33, 34, 35, 36, 37, 1, 38, 39, 40, 41, 42, 43, 44, 45, 46, 47, 48, 49, 50, 51, 52, 53, 54, 55, 56, 57, 58, 59, 60, 61, 62, 63, 64, 65, 66, 67, 68, 69, 70, 71, 72] (by decide +kernel) (by decide +kernel)
set_option maxRecDepth 20000 in
theorem gX8_bars_X8_cutOf : GoodIn wsX8_bars (wsV RX8 174 RX8 yX8_cutOf wsX8_cutOf) := goodIn_app (goodIn_of _ (by decide +kernel)) ggX8_bars_X8_cutOf
theorem dX8_bars_0 : decode cX8_bars 0 = .ok (.aload_n 0, 1) := by decide +kernel
theorem dX8_bars_1 : decode cX8_bars 1 = .ok (.invokevirtual 102, 3) := by decide +kernel
theorem dX8_bars_4 : decode cX8_bars 4 = .ok (.iconst 1, 1) := by decide +kernel
theorem dX8_bars_5 : decode cX8_bars 5 = .ok (.isub, 1) := by decide +kernel
theorem dX8_bars_6 : decode cX8_bars 6 = .ok (.istore 4, 2) := by decide +kernel
theorem dX8_bars_8 : decode cX8_bars 8 = .ok (.iload_n 1, 1) := by decide +kernel
theorem dX8_bars_9 : decode cX8_bars 9 = .ok (.iconst 0, 1) := by decide +kernel
theorem dX8_bars_10 : decode cX8_bars 10 = .ok (.iload 4, 2) := by decide +kernel
theorem dX8_bars_12 : decode cX8_bars 12 = .ok (.iconst 1, 1) := by decide +kernel
theorem dX8_bars_13 : decode cX8_bars 13 = .ok (.isub, 1) := by decide +kernel
theorem dX8_bars_14 : decode cX8_bars 14 = .ok (.invokestatic 79, 3) := by decide +kernel
theorem dX8_bars_17 : decode cX8_bars 17 = .ok (.ifCond .eq 15, 3) := by decide +kernel
theorem dX8_bars_20 : decode cX8_bars 20 = .ok (.iload_n 2, 1) := by decide +kernel
theorem dX8_bars_21 : decode cX8_bars 21 = .ok (.iload_n 1, 1) := by decide +kernel
theorem dX8_bars_22 : decode cX8_bars 22 = .ok (.iload 4, 2) := by decide +kernel
theorem dX8_bars_24 : decode cX8_bars 24 = .ok (.iconst 1, 1) := by decide +kernel
theorem dX8_bars_25 : decode cX8_bars 25 = .ok (.isub, 1) := by decide +kernel
theorem dX8_bars_26 : decode cX8_bars 26 = .ok (.invokestatic 79, 3) := by decide +kernel
theorem dX8_bars_29 : decode cX8_bars 29 = .ok (.ifCond .ne 5, 3) := by decide +kernel
theorem dX8_bars_32 : decode cX8_bars 32 = .ok (.iconst (-1), 1) := by decide +kernel
theorem dX8_bars_33 : decode cX8_bars 33 = .ok (.ireturn, 1) := by decide +kernel
theorem dX8_bars_34 : decode cX8_bars 34 = .ok (.iload_n 3, 1) := by decide +kernel
theorem dX8_bars_35 : decode cX8_bars 35 = .ok (.bipush 100, 2) := by decide +kernel
theorem dX8_bars_37 : decode cX8_bars 37 = .ok (.sipush 20000, 3) := by decide +kernel
theorem dX8_bars_40 : decode cX8_bars 40 = .ok (.invokestatic 79, 3) := by decide +kernel
theorem dX8_bars_43 : decode cX8_bars 43 = .ok (.ifCond .ne 6, 3) := by decide +kernel
theorem dX8_bars_46 : decode cX8_bars 46 = .ok (.bipush (-2), 2) := by decide +kernel
theorem dX8_bars_48 : decode cX8_bars 48 = .ok (.ireturn, 1) := by decide +kernel
theorem dX8_bars_49 : decode cX8_bars 49 = .ok (.iload_n 2, 1) := by decide +kernel
theorem dX8_bars_50 : decode cX8_bars 50 = .ok (.iload_n 1, 1) := by decide +kernel
theorem dX8_bars_51 : decode cX8_bars 51 = .ok (.isub, 1) := by decide +kernel
theorem dX8_bars_52 : decode cX8_bars 52 = .ok (.iconst 1, 1) := by decide +kernel
theorem dX8_bars_53 : decode cX8_bars 53 = .ok (.iadd, 1) := by decide +kernel
theorem dX8_bars_54 : decode cX8_bars 54 = .ok (.aload_n 0, 1) := by decide +kernel
theorem dX8_bars_55 : decode cX8_bars 55 = .ok (.getfield 55, 3) := by decide +kernel
theorem dX8_bars_58 : decode cX8_bars 58 = .ok (.imul, 1) := by decide +kernel
theorem dX8_bars_59 : decode cX8_bars 59 = .ok (.istore 5, 2) := by decide +kernel
theorem dX8_bars_61 : decode cX8_bars 61 = .ok (.iload 5, 2) := by decide +kernel
theorem dX8_bars_63 : decode cX8_bars 63 = .ok (.bipush 14, 2) := by decide +kernel
theorem dX8_bars_65 : decode cX8_bars 65 = .ok (.if_icmp .le 6, 3) := by decide +kernel
theorem dX8_bars_68 : decode cX8_bars 68 = .ok (.bipush (-4), 2) := by decide +kernel
theorem dX8_bars_70 : decode cX8_bars 70 = .ok (.ireturn, 1) := by decide +kernel
theorem dX8_bars_71 : decode cX8_bars 71 = .ok (.iconst 1, 1) := by decide +kernel
theorem dX8_bars_72 : decode cX8_bars 72 = .ok (.istore 6, 2) := by decide +kernel
theorem dX8_bars_74 : decode cX8_bars 74 = .ok (.iconst 0, 1) := by decide +kernel
theorem dX8_bars_75 : decode cX8_bars 75 = .ok (.istore 7, 2) := by decide +kernel
theorem dX8_bars_77 : decode cX8_bars 77 = .ok (.iload 7, 2) := by decide +kernel
theorem dX8_bars_79 : decode cX8_bars 79 = .ok (.iload 5, 2) := by decide +kernel
theorem dX8_bars_81 : decode cX8_bars 81 = .ok (.if_icmp .ge 88, 3) := by decide +kernel
theorem dX8_bars_84 : decode cX8_bars 84 = .ok (.aload_n 0, 1) := by decide +kernel
theorem dX8_bars_85 : decode cX8_bars 85 = .ok (.iload_n 1, 1) := by decide +kernel
theorem dX8_bars_86 : decode cX8_bars 86 = .ok (.iload 7, 2) := by decide +kernel
theorem dX8_bars_88 : decode cX8_bars 88 = .ok (.aload_n 0, 1) := by decide +kernel
theorem dX8_bars_89 : decode cX8_bars 89 = .ok (.getfield 55, 3) := by decide +kernel
theorem dX8_bars_92 : decode cX8_bars 92 = .ok (.idiv, 1) := by decide +kernel
theorem dX8_bars_93 : decode cX8_bars 93 = .ok (.iadd, 1) := by decide +kernel
theorem dX8_bars_94 : decode cX8_bars 94 = .ok (.invokevirtual 147, 3) := by decide +kernel
theorem dX8_bars_97 : decode cX8_bars 97 = .ok (.istore 8, 2) := by decide +kernel
theorem dX8_bars_99 : decode cX8_bars 99 = .ok (.aload_n 0, 1) := by decide +kernel
theorem dX8_bars_100 : decode cX8_bars 100 = .ok (.getfield 70, 3) := by decide +kernel
theorem dX8_bars_103 : decode cX8_bars 103 = .ok (.iload 7, 2) := by decide +kernel
theorem dX8_bars_105 : decode cX8_bars 105 = .ok (.aload_n 0, 1) := by decide +kernel
theorem dX8_bars_106 : decode cX8_bars 106 = .ok (.aload_n 0, 1) := by decide +kernel
theorem dX8_bars_107 : decode cX8_bars 107 = .ok (.getfield 27, 3) := by decide +kernel
theorem dX8_bars_110 : decode cX8_bars 110 = .ok (.iload 8, 2) := by decide +kernel
theorem dX8_bars_112 : decode cX8_bars 112 = .ok (.iaload, 1) := by decide +kernel
theorem dX8_bars_113 : decode cX8_bars 113 = .ok (.aload_n 0, 1) := by decide +kernel
theorem dX8_bars_114 : decode cX8_bars 114 = .ok (.getfield 27, 3) := by decide +kernel
theorem dX8_bars_117 : decode cX8_bars 117 = .ok (.aload_n 0, 1) := by decide +kernel
theorem dX8_bars_118 : decode cX8_bars 118 = .ok (.iload 8, 2) := by decide +kernel
theorem dX8_bars_120 : decode cX8_bars 120 = .ok (.invokevirtual 136, 3) := by decide +kernel
theorem dX8_bars_123 : decode cX8_bars 123 = .ok (.iaload, 1) := by decide +kernel
theorem dX8_bars_124 : decode cX8_bars 124 = .ok (.isub, 1) := by decide +kernel
theorem dX8_bars_125 : decode cX8_bars 125 = .ok (.iload 7, 2) := by decide +kernel
theorem dX8_bars_127 : decode cX8_bars 127 = .ok (.aload_n 0, 1) := by decide +kernel
theorem dX8_bars_128 : decode cX8_bars 128 = .ok (.getfield 55, 3) := by decide +kernel
theorem dX8_bars_131 : decode cX8_bars 131 = .ok (.irem, 1) := by decide +kernel
theorem dX8_bars_132 : decode cX8_bars 132 = .ok (.invokevirtual 174, 3) := by decide +kernel
theorem dX8_bars_135 : decode cX8_bars 135 = .ok (.iastore, 1) := by decide +kernel
theorem dX8_bars_136 : decode cX8_bars 136 = .ok (.iload 6, 2) := by decide +kernel
theorem dX8_bars_138 : decode cX8_bars 138 = .ok (.ifCond .eq 22, 3) := by decide +kernel
theorem dX8_bars_141 : decode cX8_bars 141 = .ok (.aload_n 0, 1) := by decide +kernel
theorem dX8_bars_142 : decode cX8_bars 142 = .ok (.getfield 70, 3) := by decide +kernel
theorem dX8_bars_145 : decode cX8_bars 145 = .ok (.iload 7, 2) := by decide +kernel
theorem dX8_bars_147 : decode cX8_bars 147 = .ok (.iaload, 1) := by decide +kernel
theorem dX8_bars_148 : decode cX8_bars 148 = .ok (.iconst 1, 1) := by decide +kernel
theorem dX8_bars_149 : decode cX8_bars 149 = .ok (.iload_n 3, 1) := by decide +kernel
theorem dX8_bars_150 : decode cX8_bars 150 = .ok (.invokestatic 79, 3) := by decide +kernel
theorem dX8_bars_153 : decode cX8_bars 153 = .ok (.ifCond .eq 7, 3) := by decide +kernel
theorem dX8_bars_156 : decode cX8_bars 156 = .ok (.iconst 1, 1) := by decide +kernel
theorem dX8_bars_157 : decode cX8_bars 157 = .ok (.goto 4, 3) := by decide +kernel
theorem dX8_bars_160 : decode cX8_bars 160 = .ok (.iconst 0, 1) := by decide +kernel
theorem dX8_bars_161 : decode cX8_bars 161 = .ok (.istore 6, 2) := by decide +kernel
theorem dX8_bars_163 : decode cX8_bars 163 = .ok (.iinc 7 1, 3) := by decide +kernel
theorem dX8_bars_166 : decode cX8_bars 166 = .ok (.goto (-89), 3) := by decide +kernel
theorem dX8_bars_169 : decode cX8_bars 169 = .ok (.iload 6, 2) := by decide +kernel
theorem dX8_bars_171 : decode cX8_bars 171 = .ok (.ifCond .ne 6, 3) := by decide +kernel
theorem dX8_bars_174 : decode cX8_bars 174 = .ok (.bipush (-5), 2) := by decide +kernel
theorem dX8_bars_176 : decode cX8_bars 176 = .ok (.ireturn, 1) := by decide +kernel
theorem dX8_bars_177 : decode cX8_bars 177 = .ok (.aload_n 0, 1) := by decide +kernel
theorem dX8_bars_178 : decode cX8_bars 178 = .ok (.getfield 73, 3) := by decide +kernel
theorem dX8_bars_181 : decode cX8_bars 181 = .ok (.iconst 0, 1) := by decide +kernel
theorem dX8_bars_182 : decode cX8_bars 182 = .ok (.iconst 0, 1) := by decide +kernel
theorem dX8_bars_183 : decode cX8_bars 183 = .ok (.iastore, 1) := by decide +kernel
theorem dX8_bars_184 : decode cX8_bars 184 = .ok (.aload_n 0, 1) := by decide +kernel
theorem dX8_bars_185 : decode cX8_bars 185 = .ok (.getfield 76, 3) := by decide +kernel
theorem dX8_bars_188 : decode cX8_bars 188 = .ok (.iconst 0, 1) := by decide +kernel
theorem dX8_bars_189 : decode cX8_bars 189 = .ok (.iload_n 3, 1) := by decide +kernel
theorem dX8_bars_190 : decode cX8_bars 190 = .ok (.iastore, 1) := by decide +kernel
theorem dX8_bars_191 : decode cX8_bars 191 = .ok (.iconst 1, 1) := by decide +kernel
theorem dX8_bars_192 : decode cX8_bars 192 = .ok (.istore 7, 2) := by decide +kernel
theorem dX8_bars_194 : decode cX8_bars 194 = .ok (.iload 7, 2) := by decide +kernel
theorem dX8_bars_196 : decode cX8_bars 196 = .ok (.iconst 1, 1) := by decide +kernel
theorem dX8_bars_197 : decode cX8_bars 197 = .ok (.iload 5, 2) := by decide +kernel
theorem dX8_bars_199 : decode cX8_bars 199 = .ok (.ishl, 1) := by decide +kernel
theorem dX8_bars_200 : decode cX8_bars 200 = .ok (.if_icmp .ge 202, 3) := by decide +kernel
theorem dX8_bars_203 : decode cX8_bars 203 = .ok (.aload_n 0, 1) := by decide +kernel
theorem dX8_bars_204 : decode cX8_bars 204 = .ok (.getfield 73, 3) := by decide +kernel
theorem dX8_bars_207 : decode cX8_bars 207 = .ok (.iload 7, 2) := by decide +kernel
theorem dX8_bars_209 : decode cX8_bars 209 = .ok (.bipush 99, 2) := by decide +kernel
theorem dX8_bars_211 : decode cX8_bars 211 = .ok (.iastore, 1) := by decide +kernel
theorem dX8_bars_212 : decode cX8_bars 212 = .ok (.aload_n 0, 1) := by decide +kernel
theorem dX8_bars_213 : decode cX8_bars 213 = .ok (.getfield 76, 3) := by decide +kernel
theorem dX8_bars_216 : decode cX8_bars 216 = .ok (.iload 7, 2) := by decide +kernel
theorem dX8_bars_218 : decode cX8_bars 218 = .ok (.iconst 0, 1) := by decide +kernel
theorem dX8_bars_219 : decode cX8_bars 219 = .ok (.iastore, 1) := by decide +kernel
theorem dX8_bars_220 : decode cX8_bars 220 = .ok (.iconst 0, 1) := by decide +kernel
theorem dX8_bars_221 : decode cX8_bars 221 = .ok (.istore 8, 2) := by decide +kernel
theorem dX8_bars_223 : decode cX8_bars 223 = .ok (.iload 8, 2) := by decide +kernel
theorem dX8_bars_225 : decode cX8_bars 225 = .ok (.iload 5, 2) := by decide +kernel
theorem dX8_bars_227 : decode cX8_bars 227 = .ok (.if_icmp .ge 169, 3) := by decide +kernel
theorem dX8_bars_230 : decode cX8_bars 230 = .ok (.iload 7, 2) := by decide +kernel
theorem dX8_bars_232 : decode cX8_bars 232 = .ok (.iload 8, 2) := by decide +kernel
theorem dX8_bars_234 : decode cX8_bars 234 = .ok (.ishr, 1) := by decide +kernel
theorem dX8_bars_235 : decode cX8_bars 235 = .ok (.iconst 1, 1) := by decide +kernel
theorem dX8_bars_236 : decode cX8_bars 236 = .ok (.iand, 1) := by decide +kernel
theorem dX8_bars_237 : decode cX8_bars 237 = .ok (.iconst 1, 1) := by decide +kernel
theorem dX8_bars_238 : decode cX8_bars 238 = .ok (.if_icmp .ne 152, 3) := by decide +kernel
theorem dX8_bars_241 : decode cX8_bars 241 = .ok (.iload 7, 2) := by decide +kernel
theorem dX8_bars_243 : decode cX8_bars 243 = .ok (.iconst 1, 1) := by decide +kernel
theorem dX8_bars_244 : decode cX8_bars 244 = .ok (.iload 8, 2) := by decide +kernel
theorem dX8_bars_246 : decode cX8_bars 246 = .ok (.ishl, 1) := by decide +kernel
theorem dX8_bars_247 : decode cX8_bars 247 = .ok (.iconst (-1), 1) := by decide +kernel
theorem dX8_bars_248 : decode cX8_bars 248 = .ok (.ixor, 1) := by decide +kernel
theorem dX8_bars_249 : decode cX8_bars 249 = .ok (.iand, 1) := by decide +kernel
theorem dX8_bars_250 : decode cX8_bars 250 = .ok (.istore 9, 2) := by decide +kernel
theorem dX8_bars_252 : decode cX8_bars 252 = .ok (.aload_n 0, 1) := by decide +kernel
theorem dX8_bars_253 : decode cX8_bars 253 = .ok (.getfield 76, 3) := by decide +kernel
theorem dX8_bars_256 : decode cX8_bars 256 = .ok (.iload 9, 2) := by decide +kernel
theorem dX8_bars_258 : decode cX8_bars 258 = .ok (.iaload, 1) := by decide +kernel
theorem dX8_bars_259 : decode cX8_bars 259 = .ok (.aload_n 0, 1) := by decide +kernel
theorem dX8_bars_260 : decode cX8_bars 260 = .ok (.getfield 70, 3) := by decide +kernel
theorem dX8_bars_263 : decode cX8_bars 263 = .ok (.iload 8, 2) := by decide +kernel
theorem dX8_bars_265 : decode cX8_bars 265 = .ok (.iaload, 1) := by decide +kernel
theorem dX8_bars_266 : decode cX8_bars 266 = .ok (.iadd, 1) := by decide +kernel
theorem dX8_bars_267 : decode cX8_bars 267 = .ok (.iload_n 3, 1) := by decide +kernel
theorem dX8_bars_268 : decode cX8_bars 268 = .ok (.if_icmp .gt 7, 3) := by decide +kernel
theorem dX8_bars_271 : decode cX8_bars 271 = .ok (.iconst 1, 1) := by decide +kernel
theorem dX8_bars_272 : decode cX8_bars 272 = .ok (.goto 4, 3) := by decide +kernel
theorem dX8_bars_275 : decode cX8_bars 275 = .ok (.iconst 0, 1) := by decide +kernel
theorem dX8_bars_276 : decode cX8_bars 276 = .ok (.istore 10, 2) := by decide +kernel
theorem dX8_bars_278 : decode cX8_bars 278 = .ok (.iload 10, 2) := by decide +kernel
theorem dX8_bars_280 : decode cX8_bars 280 = .ok (.ifCond .eq 13, 3) := by decide +kernel
theorem dX8_bars_283 : decode cX8_bars 283 = .ok (.aload_n 0, 1) := by decide +kernel
theorem dX8_bars_284 : decode cX8_bars 284 = .ok (.getfield 73, 3) := by decide +kernel
theorem dX8_bars_287 : decode cX8_bars 287 = .ok (.iload 9, 2) := by decide +kernel
theorem dX8_bars_289 : decode cX8_bars 289 = .ok (.iaload, 1) := by decide +kernel
theorem dX8_bars_290 : decode cX8_bars 290 = .ok (.goto 12, 3) := by decide +kernel
theorem dX8_bars_293 : decode cX8_bars 293 = .ok (.aload_n 0, 1) := by decide +kernel
theorem dX8_bars_294 : decode cX8_bars 294 = .ok (.getfield 73, 3) := by decide +kernel
theorem dX8_bars_297 : decode cX8_bars 297 = .ok (.iload 9, 2) := by decide +kernel
theorem dX8_bars_299 : decode cX8_bars 299 = .ok (.iaload, 1) := by decide +kernel
theorem dX8_bars_300 : decode cX8_bars 300 = .ok (.iconst 1, 1) := by decide +kernel
theorem dX8_bars_301 : decode cX8_bars 301 = .ok (.iadd, 1) := by decide +kernel
theorem dX8_bars_302 : decode cX8_bars 302 = .ok (.istore 11, 2) := by decide +kernel
theorem dX8_bars_304 : decode cX8_bars 304 = .ok (.iload 10, 2) := by decide +kernel
theorem dX8_bars_306 : decode cX8_bars 306 = .ok (.ifCond .eq 21, 3) := by decide +kernel
theorem dX8_bars_309 : decode cX8_bars 309 = .ok (.aload_n 0, 1) := by decide +kernel
theorem dX8_bars_310 : decode cX8_bars 310 = .ok (.getfield 76, 3) := by decide +kernel
theorem dX8_bars_313 : decode cX8_bars 313 = .ok (.iload 9, 2) := by decide +kernel
theorem dX8_bars_315 : decode cX8_bars 315 = .ok (.iaload, 1) := by decide +kernel
theorem dX8_bars_316 : decode cX8_bars 316 = .ok (.aload_n 0, 1) := by decide +kernel
theorem dX8_bars_317 : decode cX8_bars 317 = .ok (.getfield 70, 3) := by decide +kernel
theorem dX8_bars_320 : decode cX8_bars 320 = .ok (.iload 8, 2) := by decide +kernel
theorem dX8_bars_322 : decode cX8_bars 322 = .ok (.iaload, 1) := by decide +kernel
theorem dX8_bars_323 : decode cX8_bars 323 = .ok (.iadd, 1) := by decide +kernel
theorem dX8_bars_324 : decode cX8_bars 324 = .ok (.goto 10, 3) := by decide +kernel
theorem dX8_bars_327 : decode cX8_bars 327 = .ok (.aload_n 0, 1) := by decide +kernel
theorem dX8_bars_328 : decode cX8_bars 328 = .ok (.getfield 70, 3) := by decide +kernel
theorem dX8_bars_331 : decode cX8_bars 331 = .ok (.iload 8, 2) := by decide +kernel
theorem dX8_bars_333 : decode cX8_bars 333 = .ok (.iaload, 1) := by decide +kernel
theorem dX8_bars_334 : decode cX8_bars 334 = .ok (.istore 12, 2) := by decide +kernel
theorem dX8_bars_336 : decode cX8_bars 336 = .ok (.iload 11, 2) := by decide +kernel
theorem dX8_bars_338 : decode cX8_bars 338 = .ok (.aload_n 0, 1) := by decide +kernel
theorem dX8_bars_339 : decode cX8_bars 339 = .ok (.getfield 73, 3) := by decide +kernel
theorem dX8_bars_342 : decode cX8_bars 342 = .ok (.iload 7, 2) := by decide +kernel
theorem dX8_bars_344 : decode cX8_bars 344 = .ok (.iaload, 1) := by decide +kernel
theorem dX8_bars_345 : decode cX8_bars 345 = .ok (.if_icmp .lt 27, 3) := by decide +kernel
theorem dX8_bars_348 : decode cX8_bars 348 = .ok (.iload 11, 2) := by decide +kernel
theorem dX8_bars_350 : decode cX8_bars 350 = .ok (.aload_n 0, 1) := by decide +kernel
theorem dX8_bars_351 : decode cX8_bars 351 = .ok (.getfield 73, 3) := by decide +kernel
theorem dX8_bars_354 : decode cX8_bars 354 = .ok (.iload 7, 2) := by decide +kernel
theorem dX8_bars_356 : decode cX8_bars 356 = .ok (.iaload, 1) := by decide +kernel
theorem dX8_bars_357 : decode cX8_bars 357 = .ok (.if_icmp .ne 33, 3) := by decide +kernel
theorem dX8_bars_360 : decode cX8_bars 360 = .ok (.iload 12, 2) := by decide +kernel
theorem dX8_bars_362 : decode cX8_bars 362 = .ok (.aload_n 0, 1) := by decide +kernel
theorem dX8_bars_363 : decode cX8_bars 363 = .ok (.getfield 76, 3) := by decide +kernel
theorem dX8_bars_366 : decode cX8_bars 366 = .ok (.iload 7, 2) := by decide +kernel
theorem dX8_bars_368 : decode cX8_bars 368 = .ok (.iaload, 1) := by decide +kernel
theorem dX8_bars_369 : decode cX8_bars 369 = .ok (.if_icmp .ge 21, 3) := by decide +kernel
theorem dX8_bars_372 : decode cX8_bars 372 = .ok (.aload_n 0, 1) := by decide +kernel
theorem dX8_bars_373 : decode cX8_bars 373 = .ok (.getfield 73, 3) := by decide +kernel
theorem dX8_bars_376 : decode cX8_bars 376 = .ok (.iload 7, 2) := by decide +kernel
theorem dX8_bars_378 : decode cX8_bars 378 = .ok (.iload 11, 2) := by decide +kernel
theorem dX8_bars_380 : decode cX8_bars 380 = .ok (.iastore, 1) := by decide +kernel
theorem dX8_bars_381 : decode cX8_bars 381 = .ok (.aload_n 0, 1) := by decide +kernel
theorem dX8_bars_382 : decode cX8_bars 382 = .ok (.getfield 76, 3) := by decide +kernel
theorem dX8_bars_385 : decode cX8_bars 385 = .ok (.iload 7, 2) := by decide +kernel
theorem dX8_bars_387 : decode cX8_bars 387 = .ok (.iload 12, 2) := by decide +kernel
theorem dX8_bars_389 : decode cX8_bars 389 = .ok (.iastore, 1) := by decide +kernel
theorem dX8_bars_390 : decode cX8_bars 390 = .ok (.iinc 8 1, 3) := by decide +kernel
theorem dX8_bars_393 : decode cX8_bars 393 = .ok (.goto (-170), 3) := by decide +kernel
theorem dX8_bars_396 : decode cX8_bars 396 = .ok (.iinc 7 1, 3) := by decide +kernel
theorem dX8_bars_399 : decode cX8_bars 399 = .ok (.goto (-205), 3) := by decide +kernel
theorem dX8_bars_402 : decode cX8_bars 402 = .ok (.aload_n 0, 1) := by decide +kernel
theorem dX8_bars_403 : decode cX8_bars 403 = .ok (.getfield 73, 3) := by decide +kernel
theorem dX8_bars_406 : decode cX8_bars 406 = .ok (.iconst 1, 1) := by decide +kernel
theorem dX8_bars_407 : decode cX8_bars 407 = .ok (.iload 5, 2) := by decide +kernel
theorem dX8_bars_409 : decode cX8_bars 409 = .ok (.ishl, 1) := by decide +kernel
theorem dX8_bars_410 : decode cX8_bars 410 = .ok (.iconst 1, 1) := by decide +kernel
theorem dX8_bars_411 : decode cX8_bars 411 = .ok (.isub, 1) := by decide +kernel
theorem dX8_bars_412 : decode cX8_bars 412 = .ok (.iaload, 1) := by decide +kernel
theorem dX8_bars_413 : decode cX8_bars 413 = .ok (.ireturn, 1) := by decide +kernel
set_option maxRecDepth 20000 in
theorem ggX8_told_X8_masts : GoodIn wsX8_told wsX8_masts := goodIn_r _ [10, 2, 11, 20, 21, 22, 23, 24, 25, 26, 27, 28, 29, 30, 31, 32, 33, 34, 35, 36, 37, 38, 39, 40, 41, 42, 43, 44, 45, 46] (by decide +kernel) (by decide +kernel)
set_option maxRecDepth 20000 in
theorem gX8_told_X8_masts : GoodIn wsX8_told (wsV RX8 102 RX8 yX8_masts wsX8_masts) := goodIn_app (goodIn_of _ (by decide +kernel)) ggX8_told_X8_masts
set_option maxRecDepth 20000 in
theorem ggX8_told_X8_endOf : GoodIn wsX8_told wsX8_endOf := goodIn_r _ [15, 2, 11, 20, 21, 22, 23, 24, 25, 26, 27, 28, 29, 30, 31, 32, 33, 34, 35, 36, 37, 38, 39, 40, 41, 42, 43, 44, 45, 46] (by decide +kernel) (by decide +kernel)
set_option maxRecDepth 20000 in
theorem gX8_told_X8_endOf : GoodIn wsX8_told (wsV RX8 147 RX8 yX8_endOf wsX8_endOf) := goodIn_app (goodIn_of _ (by decide +kernel)) ggX8_told_X8_endOf
set_option maxRecDepth 20000 in
theorem ggX8_told_X8_mastBefore : GoodIn wsX8_told wsX8_mastBefore := goodIn_r _ [19, 11, 20, 21, 22, 23, 24, 25, 26, 27, 28, 29, 30, 31, 32, 33, 34, 35, 36, 37, 38, 39, 40, 41, 42, 43, 44, 45, 46] (by decide +kernel) (by decide +kernel)
set_option maxRecDepth 20000 in
theorem gX8_told_X8_mastBefore : GoodIn wsX8_told (wsV RX8 136 RX8 yX8_mastBefore wsX8_mastBefore) := goodIn_app (goodIn_of _ (by decide +kernel)) ggX8_told_X8_mastBefore
theorem dX8_told_0 : decode cX8_told 0 = .ok (.aload_n 0, 1) := by decide +kernel
theorem dX8_told_1 : decode cX8_told 1 = .ok (.invokevirtual 102, 3) := by decide +kernel
theorem dX8_told_4 : decode cX8_told 4 = .ok (.istore_n 2, 1) := by decide +kernel
theorem dX8_told_5 : decode cX8_told 5 = .ok (.iload_n 1, 1) := by decide +kernel
theorem dX8_told_6 : decode cX8_told 6 = .ok (.tableswitch 124 0 6 #[42, 47, 52, 54, 66, 71, 76], 42) := by decide +kernel
theorem dX8_told_48 : decode cX8_told 48 = .ok (.aload_n 0, 1) := by decide +kernel
theorem dX8_told_49 : decode cX8_told 49 = .ok (.getfield 86, 3) := by decide +kernel
theorem dX8_told_52 : decode cX8_told 52 = .ok (.ireturn, 1) := by decide +kernel
theorem dX8_told_53 : decode cX8_told 53 = .ok (.aload_n 0, 1) := by decide +kernel
theorem dX8_told_54 : decode cX8_told 54 = .ok (.getfield 83, 3) := by decide +kernel
theorem dX8_told_57 : decode cX8_told 57 = .ok (.ireturn, 1) := by decide +kernel
theorem dX8_told_58 : decode cX8_told 58 = .ok (.iload_n 2, 1) := by decide +kernel
theorem dX8_told_59 : decode cX8_told 59 = .ok (.ireturn, 1) := by decide +kernel
theorem dX8_told_60 : decode cX8_told 60 = .ok (.iload_n 2, 1) := by decide +kernel
theorem dX8_told_61 : decode cX8_told 61 = .ok (.ifCond .le 9, 3) := by decide +kernel
theorem dX8_told_64 : decode cX8_told 64 = .ok (.iload_n 2, 1) := by decide +kernel
theorem dX8_told_65 : decode cX8_told 65 = .ok (.iconst 1, 1) := by decide +kernel
theorem dX8_told_66 : decode cX8_told 66 = .ok (.isub, 1) := by decide +kernel
theorem dX8_told_67 : decode cX8_told 67 = .ok (.goto 4, 3) := by decide +kernel
theorem dX8_told_70 : decode cX8_told 70 = .ok (.iconst 0, 1) := by decide +kernel
theorem dX8_told_71 : decode cX8_told 71 = .ok (.ireturn, 1) := by decide +kernel
theorem dX8_told_72 : decode cX8_told 72 = .ok (.aload_n 0, 1) := by decide +kernel
theorem dX8_told_73 : decode cX8_told 73 = .ok (.getfield 55, 3) := by decide +kernel
theorem dX8_told_76 : decode cX8_told 76 = .ok (.ireturn, 1) := by decide +kernel
theorem dX8_told_77 : decode cX8_told 77 = .ok (.aload_n 0, 1) := by decide +kernel
theorem dX8_told_78 : decode cX8_told 78 = .ok (.getfield 7, 3) := by decide +kernel
theorem dX8_told_81 : decode cX8_told 81 = .ok (.ireturn, 1) := by decide +kernel
theorem dX8_told_82 : decode cX8_told 82 = .ok (.iload_n 2, 1) := by decide +kernel
theorem dX8_told_83 : decode cX8_told 83 = .ok (.iconst 1, 1) := by decide +kernel
theorem dX8_told_84 : decode cX8_told 84 = .ok (.if_icmp .le 13, 3) := by decide +kernel
theorem dX8_told_87 : decode cX8_told 87 = .ok (.aload_n 0, 1) := by decide +kernel
theorem dX8_told_88 : decode cX8_told 88 = .ok (.iload_n 2, 1) := by decide +kernel
theorem dX8_told_89 : decode cX8_told 89 = .ok (.iconst 2, 1) := by decide +kernel
theorem dX8_told_90 : decode cX8_told 90 = .ok (.isub, 1) := by decide +kernel
theorem dX8_told_91 : decode cX8_told 91 = .ok (.invokevirtual 147, 3) := by decide +kernel
theorem dX8_told_94 : decode cX8_told 94 = .ok (.goto 5, 3) := by decide +kernel
theorem dX8_told_97 : decode cX8_told 97 = .ok (.bipush (-6), 2) := by decide +kernel
theorem dX8_told_99 : decode cX8_told 99 = .ok (.istore_n 3, 1) := by decide +kernel
theorem dX8_told_100 : decode cX8_told 100 = .ok (.iload_n 3, 1) := by decide +kernel
theorem dX8_told_101 : decode cX8_told 101 = .ok (.ifCond .ge 7, 3) := by decide +kernel
theorem dX8_told_104 : decode cX8_told 104 = .ok (.iconst 0, 1) := by decide +kernel
theorem dX8_told_105 : decode cX8_told 105 = .ok (.goto 24, 3) := by decide +kernel
theorem dX8_told_108 : decode cX8_told 108 = .ok (.aload_n 0, 1) := by decide +kernel
theorem dX8_told_109 : decode cX8_told 109 = .ok (.getfield 27, 3) := by decide +kernel
theorem dX8_told_112 : decode cX8_told 112 = .ok (.iload_n 3, 1) := by decide +kernel
theorem dX8_told_113 : decode cX8_told 113 = .ok (.iaload, 1) := by decide +kernel
theorem dX8_told_114 : decode cX8_told 114 = .ok (.aload_n 0, 1) := by decide +kernel
theorem dX8_told_115 : decode cX8_told 115 = .ok (.getfield 27, 3) := by decide +kernel
theorem dX8_told_118 : decode cX8_told 118 = .ok (.aload_n 0, 1) := by decide +kernel
theorem dX8_told_119 : decode cX8_told 119 = .ok (.aload_n 0, 1) := by decide +kernel
theorem dX8_told_120 : decode cX8_told 120 = .ok (.iconst 0, 1) := by decide +kernel
theorem dX8_told_121 : decode cX8_told 121 = .ok (.invokevirtual 147, 3) := by decide +kernel
theorem dX8_told_124 : decode cX8_told 124 = .ok (.invokevirtual 136, 3) := by decide +kernel
theorem dX8_told_127 : decode cX8_told 127 = .ok (.iaload, 1) := by decide +kernel
theorem dX8_told_128 : decode cX8_told 128 = .ok (.isub, 1) := by decide +kernel
theorem dX8_told_129 : decode cX8_told 129 = .ok (.ireturn, 1) := by decide +kernel
theorem dX8_told_130 : decode cX8_told 130 = .ok (.bipush (-2), 2) := by decide +kernel
theorem dX8_told_132 : decode cX8_told 132 = .ok (.ireturn, 1) := by decide +kernel
theorem dJ9_floorDiv_f86c9_0 : decode cJ9_floorDiv_f86c9 0 = .ok (.lload_n 0, 1) := by decide +kernel
theorem dJ9_floorDiv_f86c9_1 : decode cJ9_floorDiv_f86c9 1 = .ok (.lload_n 2, 1) := by decide +kernel
theorem dJ9_floorDiv_f86c9_2 : decode cJ9_floorDiv_f86c9 2 = .ok (.ldiv, 1) := by decide +kernel
theorem dJ9_floorDiv_f86c9_3 : decode cJ9_floorDiv_f86c9 3 = .ok (.lstore 4, 2) := by decide +kernel
theorem dJ9_floorDiv_f86c9_5 : decode cJ9_floorDiv_f86c9 5 = .ok (.lload_n 0, 1) := by decide +kernel
theorem dJ9_floorDiv_f86c9_6 : decode cJ9_floorDiv_f86c9 6 = .ok (.lload_n 2, 1) := by decide +kernel
theorem dJ9_floorDiv_f86c9_7 : decode cJ9_floorDiv_f86c9 7 = .ok (.lxor, 1) := by decide +kernel
theorem dJ9_floorDiv_f86c9_8 : decode cJ9_floorDiv_f86c9 8 = .ok (.lconst 0, 1) := by decide +kernel
theorem dJ9_floorDiv_f86c9_9 : decode cJ9_floorDiv_f86c9 9 = .ok (.lcmp, 1) := by decide +kernel
theorem dJ9_floorDiv_f86c9_10 : decode cJ9_floorDiv_f86c9 10 = .ok (.ifCond .ge 17, 3) := by decide +kernel
theorem dJ9_floorDiv_f86c9_13 : decode cJ9_floorDiv_f86c9 13 = .ok (.lload 4, 2) := by decide +kernel
theorem dJ9_floorDiv_f86c9_15 : decode cJ9_floorDiv_f86c9 15 = .ok (.lload_n 2, 1) := by decide +kernel
theorem dJ9_floorDiv_f86c9_16 : decode cJ9_floorDiv_f86c9 16 = .ok (.lmul, 1) := by decide +kernel
theorem dJ9_floorDiv_f86c9_17 : decode cJ9_floorDiv_f86c9 17 = .ok (.lload_n 0, 1) := by decide +kernel
theorem dJ9_floorDiv_f86c9_18 : decode cJ9_floorDiv_f86c9 18 = .ok (.lcmp, 1) := by decide +kernel
theorem dJ9_floorDiv_f86c9_19 : decode cJ9_floorDiv_f86c9 19 = .ok (.ifCond .eq 8, 3) := by decide +kernel
theorem dJ9_floorDiv_f86c9_22 : decode cJ9_floorDiv_f86c9 22 = .ok (.lload 4, 2) := by decide +kernel
theorem dJ9_floorDiv_f86c9_24 : decode cJ9_floorDiv_f86c9 24 = .ok (.lconst 1, 1) := by decide +kernel
theorem dJ9_floorDiv_f86c9_25 : decode cJ9_floorDiv_f86c9 25 = .ok (.lsub, 1) := by decide +kernel
theorem dJ9_floorDiv_f86c9_26 : decode cJ9_floorDiv_f86c9 26 = .ok (.lreturn, 1) := by decide +kernel
theorem dJ9_floorDiv_f86c9_27 : decode cJ9_floorDiv_f86c9 27 = .ok (.lload 4, 2) := by decide +kernel
theorem dJ9_floorDiv_f86c9_29 : decode cJ9_floorDiv_f86c9 29 = .ok (.lreturn, 1) := by decide +kernel
theorem dJ9_abs_067f4_0 : decode cJ9_abs_067f4 0 = .ok (.lload_n 0, 1) := by decide +kernel
theorem dJ9_abs_067f4_1 : decode cJ9_abs_067f4 1 = .ok (.lconst 0, 1) := by decide +kernel
theorem dJ9_abs_067f4_2 : decode cJ9_abs_067f4 2 = .ok (.lcmp, 1) := by decide +kernel
theorem dJ9_abs_067f4_3 : decode cJ9_abs_067f4 3 = .ok (.ifCond .ge 8, 3) := by decide +kernel
theorem dJ9_abs_067f4_6 : decode cJ9_abs_067f4 6 = .ok (.lload_n 0, 1) := by decide +kernel
theorem dJ9_abs_067f4_7 : decode cJ9_abs_067f4 7 = .ok (.lneg, 1) := by decide +kernel
theorem dJ9_abs_067f4_8 : decode cJ9_abs_067f4 8 = .ok (.goto 4, 3) := by decide +kernel
theorem dJ9_abs_067f4_11 : decode cJ9_abs_067f4 11 = .ok (.lload_n 0, 1) := by decide +kernel
theorem dJ9_abs_067f4_12 : decode cJ9_abs_067f4 12 = .ok (.lreturn, 1) := by decide +kernel
theorem dJ9_max_7cf53_0 : decode cJ9_max_7cf53 0 = .ok (.iload_n 0, 1) := by decide +kernel
theorem dJ9_max_7cf53_1 : decode cJ9_max_7cf53 1 = .ok (.iload_n 1, 1) := by decide +kernel
theorem dJ9_max_7cf53_2 : decode cJ9_max_7cf53 2 = .ok (.if_icmp .lt 7, 3) := by decide +kernel
theorem dJ9_max_7cf53_5 : decode cJ9_max_7cf53 5 = .ok (.iload_n 0, 1) := by decide +kernel
theorem dJ9_max_7cf53_6 : decode cJ9_max_7cf53 6 = .ok (.goto 4, 3) := by decide +kernel
theorem dJ9_max_7cf53_9 : decode cJ9_max_7cf53 9 = .ok (.iload_n 1, 1) := by decide +kernel
theorem dJ9_max_7cf53_10 : decode cJ9_max_7cf53 10 = .ok (.ireturn, 1) := by decide +kernel
theorem dJ9_min_7cf53_0 : decode cJ9_min_7cf53 0 = .ok (.iload_n 0, 1) := by decide +kernel
theorem dJ9_min_7cf53_1 : decode cJ9_min_7cf53 1 = .ok (.iload_n 1, 1) := by decide +kernel
theorem dJ9_min_7cf53_2 : decode cJ9_min_7cf53 2 = .ok (.if_icmp .gt 7, 3) := by decide +kernel
theorem dJ9_min_7cf53_5 : decode cJ9_min_7cf53 5 = .ok (.iload_n 0, 1) := by decide +kernel
theorem dJ9_min_7cf53_6 : decode cJ9_min_7cf53 6 = .ok (.goto 4, 3) := by decide +kernel
theorem dJ9_min_7cf53_9 : decode cJ9_min_7cf53 9 = .ok (.iload_n 1, 1) := by decide +kernel
theorem dJ9_min_7cf53_10 : decode cJ9_min_7cf53 10 = .ok (.ireturn, 1) := by decide +kernel
