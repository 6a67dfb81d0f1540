theorem dX11_isOccurrence_2 : decode cX11_isOccurrence 2 = .ok (.invokevirtual 238, 3) := by decide +kernel
theorem dX11_isOccurrence_5 : decode cX11_isOccurrence 5 = .ok (.ifCond .ne 5, 3) := by decide +kernel
theorem dX11_isOccurrence_8 : decode cX11_isOccurrence 8 = .ok (.iconst 0, 1) := by decide +kernel
theorem dX11_isOccurrence_9 : decode cX11_isOccurrence 9 = .ok (.ireturn, 1) := by decide +kernel
theorem dX11_isOccurrence_10 : decode cX11_isOccurrence 10 = .ok (.aload_n 0, 1) := by decide +kernel
theorem dX11_isOccurrence_11 : decode cX11_isOccurrence 11 = .ok (.iload_n 1, 1) := by decide +kernel
theorem dX11_isOccurrence_12 : decode cX11_isOccurrence 12 = .ok (.invokevirtual 241, 3) := by decide +kernel
theorem dX11_isOccurrence_15 : decode cX11_isOccurrence 15 = .ok (.iload_n 2, 1) := by decide +kernel
theorem dX11_isOccurrence_16 : decode cX11_isOccurrence 16 = .ok (.iconst 0, 1) := by decide +kernel
theorem dX11_isOccurrence_17 : decode cX11_isOccurrence 17 = .ok (.aload_n 0, 1) := by decide +kernel
theorem dX11_isOccurrence_18 : decode cX11_isOccurrence 18 = .ok (.getfield 244, 3) := by decide +kernel
theorem dX11_isOccurrence_21 : decode cX11_isOccurrence 21 = .ok (.iconst 1, 1) := by decide +kernel
theorem dX11_isOccurrence_22 : decode cX11_isOccurrence 22 = .ok (.isub, 1) := by decide +kernel
theorem dX11_isOccurrence_23 : decode cX11_isOccurrence 23 = .ok (.invokestatic 106, 3) := by decide +kernel
theorem dX11_isOccurrence_26 : decode cX11_isOccurrence 26 = .ok (.ireturn, 1) := by decide +kernel
theorem dX11_lists_0 : decode cX11_lists 0 = .ok (.iload_n 1, 1) := by decide +kernel
theorem dX11_lists_1 : decode cX11_lists 1 = .ok (.invokestatic 145, 3) := by decide +kernel
theorem dX11_lists_4 : decode cX11_lists 4 = .ok (.istore_n 2, 1) := by decide +kernel
theorem dX11_lists_5 : decode cX11_lists 5 = .ok (.aload_n 0, 1) := by decide +kernel
theorem dX11_lists_6 : decode cX11_lists 6 = .ok (.getfield 9, 3) := by decide +kernel
theorem dX11_lists_9 : decode cX11_lists 9 = .ok (.iload_n 2, 1) := by decide +kernel
theorem dX11_lists_10 : decode cX11_lists 10 = .ok (.iconst 1, 1) := by decide +kernel
theorem dX11_lists_11 : decode cX11_lists 11 = .ok (.iadd, 1) := by decide +kernel
theorem dX11_lists_12 : decode cX11_lists 12 = .ok (.iaload, 1) := by decide +kernel
theorem dX11_lists_13 : decode cX11_lists 13 = .ok (.istore_n 3, 1) := by decide +kernel
theorem dX11_lists_14 : decode cX11_lists 14 = .ok (.aload_n 0, 1) := by decide +kernel
theorem dX11_lists_15 : decode cX11_lists 15 = .ok (.getfield 9, 3) := by decide +kernel
theorem dX11_lists_18 : decode cX11_lists 18 = .ok (.iload_n 2, 1) := by decide +kernel
theorem dX11_lists_19 : decode cX11_lists 19 = .ok (.iconst 5, 1) := by decide +kernel
theorem dX11_lists_20 : decode cX11_lists 20 = .ok (.iadd, 1) := by decide +kernel
theorem dX11_lists_21 : decode cX11_lists 21 = .ok (.iaload, 1) := by decide +kernel
theorem dX11_lists_22 : decode cX11_lists 22 = .ok (.istore 4, 2) := by decide +kernel
theorem dX11_lists_24 : decode cX11_lists 24 = .ok (.aload_n 0, 1) := by decide +kernel
theorem dX11_lists_25 : decode cX11_lists 25 = .ok (.getfield 9, 3) := by decide +kernel
theorem dX11_lists_28 : decode cX11_lists 28 = .ok (.iload_n 2, 1) := by decide +kernel
theorem dX11_lists_29 : decode cX11_lists 29 = .ok (.bipush 7, 2) := by decide +kernel
theorem dX11_lists_31 : decode cX11_lists 31 = .ok (.iadd, 1) := by decide +kernel
theorem dX11_lists_32 : decode cX11_lists 32 = .ok (.iaload, 1) := by decide +kernel
theorem dX11_lists_33 : decode cX11_lists 33 = .ok (.istore 5, 2) := by decide +kernel
theorem dX11_lists_35 : decode cX11_lists 35 = .ok (.aload_n 0, 1) := by decide +kernel
theorem dX11_lists_36 : decode cX11_lists 36 = .ok (.iconst 0, 1) := by decide +kernel
theorem dX11_lists_37 : decode cX11_lists 37 = .ok (.putfield 244, 3) := by decide +kernel
theorem dX11_lists_40 : decode cX11_lists 40 = .ok (.aload_n 0, 1) := by decide +kernel
theorem dX11_lists_41 : decode cX11_lists 41 = .ok (.getfield 9, 3) := by decide +kernel
theorem dX11_lists_44 : decode cX11_lists 44 = .ok (.iload_n 2, 1) := by decide +kernel
theorem dX11_lists_45 : decode cX11_lists 45 = .ok (.bipush 6, 2) := by decide +kernel
theorem dX11_lists_47 : decode cX11_lists 47 = .ok (.iadd, 1) := by decide +kernel
theorem dX11_lists_48 : decode cX11_lists 48 = .ok (.iaload, 1) := by decide +kernel
theorem dX11_lists_49 : decode cX11_lists 49 = .ok (.lookupswitch 192 #[(0, 27), (1, 76)], 27) := by decide +kernel
theorem dX11_lists_76 : decode cX11_lists 76 = .ok (.iload_n 3, 1) := by decide +kernel
theorem dX11_lists_77 : decode cX11_lists 77 = .ok (.istore 6, 2) := by decide +kernel
theorem dX11_lists_79 : decode cX11_lists 79 = .ok (.iload 6, 2) := by decide +kernel
theorem dX11_lists_81 : decode cX11_lists 81 = .ok (.sipush 11688, 3) := by decide +kernel
theorem dX11_lists_84 : decode cX11_lists 84 = .ok (.if_icmp .ge 40, 3) := by decide +kernel
theorem dX11_lists_87 : decode cX11_lists 87 = .ok (.aload_n 0, 1) := by decide +kernel
theorem dX11_lists_88 : decode cX11_lists 88 = .ok (.getfield 244, 3) := by decide +kernel
theorem dX11_lists_91 : decode cX11_lists 91 = .ok (.iload 4, 2) := by decide +kernel
theorem dX11_lists_93 : decode cX11_lists 93 = .ok (.if_icmp .ge 31, 3) := by decide +kernel
theorem dX11_lists_96 : decode cX11_lists 96 = .ok (.aload_n 0, 1) := by decide +kernel
theorem dX11_lists_97 : decode cX11_lists 97 = .ok (.getfield 71, 3) := by decide +kernel
theorem dX11_lists_100 : decode cX11_lists 100 = .ok (.aload_n 0, 1) := by decide +kernel
theorem dX11_lists_101 : decode cX11_lists 101 = .ok (.dup, 1) := by decide +kernel
theorem dX11_lists_102 : decode cX11_lists 102 = .ok (.getfield 244, 3) := by decide +kernel
theorem dX11_lists_105 : decode cX11_lists 105 = .ok (.dup_x1, 1) := by decide +kernel
theorem dX11_lists_106 : decode cX11_lists 106 = .ok (.iconst 1, 1) := by decide +kernel
theorem dX11_lists_107 : decode cX11_lists 107 = .ok (.iadd, 1) := by decide +kernel
theorem dX11_lists_108 : decode cX11_lists 108 = .ok (.putfield 244, 3) := by decide +kernel
theorem dX11_lists_111 : decode cX11_lists 111 = .ok (.iload 6, 2) := by decide +kernel
theorem dX11_lists_113 : decode cX11_lists 113 = .ok (.iastore, 1) := by decide +kernel
theorem dX11_lists_114 : decode cX11_lists 114 = .ok (.iload 6, 2) := by decide +kernel
theorem dX11_lists_116 : decode cX11_lists 116 = .ok (.iload 5, 2) := by decide +kernel
theorem dX11_lists_118 : decode cX11_lists 118 = .ok (.iadd, 1) := by decide +kernel
theorem dX11_lists_119 : decode cX11_lists 119 = .ok (.istore 6, 2) := by decide +kernel
theorem dX11_lists_121 : decode cX11_lists 121 = .ok (.goto (-42), 3) := by decide +kernel
theorem dX11_lists_124 : decode cX11_lists 124 = .ok (.return_, 1) := by decide +kernel
theorem dX11_lists_125 : decode cX11_lists 125 = .ok (.iload_n 3, 1) := by decide +kernel
theorem dX11_lists_126 : decode cX11_lists 126 = .ok (.iload_n 3, 1) := by decide +kernel
theorem dX11_lists_127 : decode cX11_lists 127 = .ok (.invokestatic 120, 3) := by decide +kernel
theorem dX11_lists_130 : decode cX11_lists 130 = .ok (.isub, 1) := by decide +kernel
theorem dX11_lists_131 : decode cX11_lists 131 = .ok (.istore 6, 2) := by decide +kernel
theorem dX11_lists_133 : decode cX11_lists 133 = .ok (.iload 6, 2) := by decide +kernel
theorem dX11_lists_135 : decode cX11_lists 135 = .ok (.sipush 11688, 3) := by decide +kernel
theorem dX11_lists_138 : decode cX11_lists 138 = .ok (.if_icmp .ge 102, 3) := by decide +kernel
theorem dX11_lists_141 : decode cX11_lists 141 = .ok (.iconst 0, 1) := by decide +kernel
theorem dX11_lists_142 : decode cX11_lists 142 = .ok (.istore 7, 2) := by decide +kernel
theorem dX11_lists_144 : decode cX11_lists 144 = .ok (.iload 7, 2) := by decide +kernel
theorem dX11_lists_146 : decode cX11_lists 146 = .ok (.bipush 7, 2) := by decide +kernel
theorem dX11_lists_148 : decode cX11_lists 148 = .ok (.if_icmp .ge 79, 3) := by decide +kernel
theorem dX11_lists_151 : decode cX11_lists 151 = .ok (.aload_n 0, 1) := by decide +kernel
theorem dX11_lists_152 : decode cX11_lists 152 = .ok (.getfield 9, 3) := by decide +kernel
theorem dX11_lists_155 : decode cX11_lists 155 = .ok (.iload_n 2, 1) := by decide +kernel
theorem dX11_lists_156 : decode cX11_lists 156 = .ok (.bipush 8, 2) := by decide +kernel
theorem dX11_lists_158 : decode cX11_lists 158 = .ok (.iadd, 1) := by decide +kernel
theorem dX11_lists_159 : decode cX11_lists 159 = .ok (.iaload, 1) := by decide +kernel
theorem dX11_lists_160 : decode cX11_lists 160 = .ok (.iload 7, 2) := by decide +kernel
theorem dX11_lists_162 : decode cX11_lists 162 = .ok (.ishr, 1) := by decide +kernel
theorem dX11_lists_163 : decode cX11_lists 163 = .ok (.iconst 1, 1) := by decide +kernel
theorem dX11_lists_164 : decode cX11_lists 164 = .ok (.iand, 1) := by decide +kernel
theorem dX11_lists_165 : decode cX11_lists 165 = .ok (.ifCond .eq 56, 3) := by decide +kernel
theorem dX11_lists_168 : decode cX11_lists 168 = .ok (.iload 6, 2) := by decide +kernel
theorem dX11_lists_170 : decode cX11_lists 170 = .ok (.iload 7, 2) := by decide +kernel
theorem dX11_lists_172 : decode cX11_lists 172 = .ok (.iadd, 1) := by decide +kernel
theorem dX11_lists_173 : decode cX11_lists 173 = .ok (.iload_n 3, 1) := by decide +kernel
theorem dX11_lists_174 : decode cX11_lists 174 = .ok (.if_icmp .lt 47, 3) := by decide +kernel
theorem dX11_lists_177 : decode cX11_lists 177 = .ok (.iload 6, 2) := by decide +kernel
theorem dX11_lists_179 : decode cX11_lists 179 = .ok (.iload 7, 2) := by decide +kernel
theorem dX11_lists_181 : decode cX11_lists 181 = .ok (.iadd, 1) := by decide +kernel
theorem dX11_lists_182 : decode cX11_lists 182 = .ok (.sipush 11688, 3) := by decide +kernel
theorem dX11_lists_185 : decode cX11_lists 185 = .ok (.if_icmp .ge 36, 3) := by decide +kernel
theorem dX11_lists_188 : decode cX11_lists 188 = .ok (.aload_n 0, 1) := by decide +kernel
theorem dX11_lists_189 : decode cX11_lists 189 = .ok (.getfield 244, 3) := by decide +kernel
theorem dX11_lists_192 : decode cX11_lists 192 = .ok (.iload 4, 2) := by decide +kernel
theorem dX11_lists_194 : decode cX11_lists 194 = .ok (.if_icmp .ne 6, 3) := by decide +kernel
theorem dX11_lists_197 : decode cX11_lists 197 = .ok (.goto 24, 3) := by decide +kernel
theorem dX11_lists_200 : decode cX11_lists 200 = .ok (.aload_n 0, 1) := by decide +kernel
theorem dX11_lists_201 : decode cX11_lists 201 = .ok (.getfield 71, 3) := by decide +kernel
theorem dX11_lists_204 : decode cX11_lists 204 = .ok (.aload_n 0, 1) := by decide +kernel
theorem dX11_lists_205 : decode cX11_lists 205 = .ok (.dup, 1) := by decide +kernel
theorem dX11_lists_206 : decode cX11_lists 206 = .ok (.getfield 244, 3) := by decide +kernel
theorem dX11_lists_209 : decode cX11_lists 209 = .ok (.dup_x1, 1) := by decide +kernel
theorem dX11_lists_210 : decode cX11_lists 210 = .ok (.iconst 1, 1) := by decide +kernel
theorem dX11_lists_211 : decode cX11_lists 211 = .ok (.iadd, 1) := by decide +kernel
theorem dX11_lists_212 : decode cX11_lists 212 = .ok (.putfield 244, 3) := by decide +kernel
theorem dX11_lists_215 : decode cX11_lists 215 = .ok (.iload 6, 2) := by decide +kernel
theorem dX11_lists_217 : decode cX11_lists 217 = .ok (.iload 7, 2) := by decide +kernel
theorem dX11_lists_219 : decode cX11_lists 219 = .ok (.iadd, 1) := by decide +kernel
theorem dX11_lists_220 : decode cX11_lists 220 = .ok (.iastore, 1) := by decide +kernel
theorem dX11_lists_221 : decode cX11_lists 221 = .ok (.iinc 7 1, 3) := by decide +kernel
theorem dX11_lists_224 : decode cX11_lists 224 = .ok (.goto (-80), 3) := by decide +kernel
theorem dX11_lists_227 : decode cX11_lists 227 = .ok (.iload 6, 2) := by decide +kernel
theorem dX11_lists_229 : decode cX11_lists 229 = .ok (.bipush 7, 2) := by decide +kernel
theorem dX11_lists_231 : decode cX11_lists 231 = .ok (.iload 5, 2) := by decide +kernel
theorem dX11_lists_233 : decode cX11_lists 233 = .ok (.imul, 1) := by decide +kernel
theorem dX11_lists_234 : decode cX11_lists 234 = .ok (.iadd, 1) := by decide +kernel
theorem dX11_lists_235 : decode cX11_lists 235 = .ok (.istore 6, 2) := by decide +kernel
theorem dX11_lists_237 : decode cX11_lists 237 = .ok (.goto (-104), 3) := by decide +kernel
theorem dX11_lists_240 : decode cX11_lists 240 = .ok (.return_, 1) := by decide +kernel
theorem dX11_lists_241 : decode cX11_lists 241 = .ok (.aload_n 0, 1) := by decide +kernel
theorem dX11_lists_242 : decode cX11_lists 242 = .ok (.getfield 9, 3) := by decide +kernel
theorem dX11_lists_245 : decode cX11_lists 245 = .ok (.iload_n 2, 1) := by decide +kernel
theorem dX11_lists_246 : decode cX11_lists 246 = .ok (.bipush 6, 2) := by decide +kernel
theorem dX11_lists_248 : decode cX11_lists 248 = .ok (.iadd, 1) := by decide +kernel
theorem dX11_lists_249 : decode cX11_lists 249 = .ok (.iaload, 1) := by decide +kernel
theorem dX11_lists_250 : decode cX11_lists 250 = .ok (.iconst 2, 1) := by decide +kernel
theorem dX11_lists_251 : decode cX11_lists 251 = .ok (.if_icmp .ne 10, 3) := by decide +kernel
theorem dX11_lists_254 : decode cX11_lists 254 = .ok (.iload_n 3, 1) := by decide +kernel
theorem dX11_lists_255 : decode cX11_lists 255 = .ok (.invokestatic 117, 3) := by decide +kernel
theorem dX11_lists_258 : decode cX11_lists 258 = .ok (.goto 22, 3) := by decide +kernel
theorem dX11_lists_261 : decode cX11_lists 261 = .ok (.bipush 100, 2) := by decide +kernel
theorem dX11_lists_263 : decode cX11_lists 263 = .ok (.iload_n 3, 1) := by decide +kernel
theorem dX11_lists_264 : decode cX11_lists 264 = .ok (.invokestatic 117, 3) := by decide +kernel
theorem dX11_lists_267 : decode cX11_lists 267 = .ok (.iconst 1, 1) := by decide +kernel
theorem dX11_lists_268 : decode cX11_lists 268 = .ok (.isub, 1) := by decide +kernel
theorem dX11_lists_269 : decode cX11_lists 269 = .ok (.bipush 7, 2) := by decide +kernel
theorem dX11_lists_271 : decode cX11_lists 271 = .ok (.idiv, 1) := by decide +kernel
theorem dX11_lists_272 : decode cX11_lists 272 = .ok (.iconst 1, 1) := by decide +kernel
theorem dX11_lists_273 : decode cX11_lists 273 = .ok (.iadd, 1) := by decide +kernel
theorem dX11_lists_274 : decode cX11_lists 274 = .ok (.imul, 1) := by decide +kernel
theorem dX11_lists_275 : decode cX11_lists 275 = .ok (.iload_n 3, 1) := by decide +kernel
theorem dX11_lists_276 : decode cX11_lists 276 = .ok (.invokestatic 120, 3) := by decide +kernel
theorem dX11_lists_279 : decode cX11_lists 279 = .ok (.iadd, 1) := by decide +kernel
theorem dX11_lists_280 : decode cX11_lists 280 = .ok (.istore 6, 2) := by decide +kernel
theorem dX11_lists_282 : decode cX11_lists 282 = .ok (.bipush 12, 2) := by decide +kernel
theorem dX11_lists_284 : decode cX11_lists 284 = .ok (.iload_n 3, 1) := by decide +kernel
theorem dX11_lists_285 : decode cX11_lists 285 = .ok (.invokestatic 97, 3) := by decide +kernel
theorem dX11_lists_288 : decode cX11_lists 288 = .ok (.imul, 1) := by decide +kernel
theorem dX11_lists_289 : decode cX11_lists 289 = .ok (.iload_n 3, 1) := by decide +kernel
theorem dX11_lists_290 : decode cX11_lists 290 = .ok (.invokestatic 103, 3) := by decide +kernel
theorem dX11_lists_293 : decode cX11_lists 293 = .ok (.iadd, 1) := by decide +kernel
theorem dX11_lists_294 : decode cX11_lists 294 = .ok (.iconst 1, 1) := by decide +kernel
theorem dX11_lists_295 : decode cX11_lists 295 = .ok (.isub, 1) := by decide +kernel
theorem dX11_lists_296 : decode cX11_lists 296 = .ok (.istore 7, 2) := by decide +kernel
theorem dX11_lists_298 : decode cX11_lists 298 = .ok (.iload 7, 2) := by decide +kernel
theorem dX11_lists_300 : decode cX11_lists 300 = .ok (.sipush 384, 3) := by decide +kernel
theorem dX11_lists_303 : decode cX11_lists 303 = .ok (.if_icmp .ge 91, 3) := by decide +kernel
theorem dX11_lists_306 : decode cX11_lists 306 = .ok (.aload_n 0, 1) := by decide +kernel
theorem dX11_lists_307 : decode cX11_lists 307 = .ok (.getfield 244, 3) := by decide +kernel
theorem dX11_lists_310 : decode cX11_lists 310 = .ok (.iload 4, 2) := by decide +kernel
theorem dX11_lists_312 : decode cX11_lists 312 = .ok (.if_icmp .ge 82, 3) := by decide +kernel
theorem dX11_lists_315 : decode cX11_lists 315 = .ok (.iload 6, 2) := by decide +kernel
theorem dX11_lists_317 : decode cX11_lists 317 = .ok (.sipush 500, 3) := by decide +kernel
theorem dX11_lists_320 : decode cX11_lists 320 = .ok (.sipush 506, 3) := by decide +kernel
theorem dX11_lists_323 : decode cX11_lists 323 = .ok (.invokestatic 106, 3) := by decide +kernel
theorem dX11_lists_326 : decode cX11_lists 326 = .ok (.ifCond .eq 16, 3) := by decide +kernel
theorem dX11_lists_329 : decode cX11_lists 329 = .ok (.iload 7, 2) := by decide +kernel
theorem dX11_lists_331 : decode cX11_lists 331 = .ok (.iload 6, 2) := by decide +kernel
theorem dX11_lists_333 : decode cX11_lists 333 = .ok (.bipush 100, 2) := by decide +kernel
theorem dX11_lists_335 : decode cX11_lists 335 = .ok (.irem, 1) := by decide +kernel
theorem dX11_lists_336 : decode cX11_lists 336 = .ok (.invokestatic 247, 3) := by decide +kernel
theorem dX11_lists_339 : decode cX11_lists 339 = .ok (.goto 20, 3) := by decide +kernel
theorem dX11_lists_342 : decode cX11_lists 342 = .ok (.iload 6, 2) := by decide +kernel
theorem dX11_lists_344 : decode cX11_lists 344 = .ok (.iload 7, 2) := by decide +kernel
theorem dX11_lists_346 : decode cX11_lists 346 = .ok (.bipush 12, 2) := by decide +kernel
theorem dX11_lists_348 : decode cX11_lists 348 = .ok (.idiv, 1) := by decide +kernel
theorem dX11_lists_349 : decode cX11_lists 349 = .ok (.iload 7, 2) := by decide +kernel
theorem dX11_lists_351 : decode cX11_lists 351 = .ok (.bipush 12, 2) := by decide +kernel
theorem dX11_lists_353 : decode cX11_lists 353 = .ok (.irem, 1) := by decide +kernel
theorem dX11_lists_354 : decode cX11_lists 354 = .ok (.iconst 1, 1) := by decide +kernel
theorem dX11_lists_355 : decode cX11_lists 355 = .ok (.iadd, 1) := by decide +kernel
theorem dX11_lists_356 : decode cX11_lists 356 = .ok (.invokestatic 174, 3) := by decide +kernel
theorem dX11_lists_359 : decode cX11_lists 359 = .ok (.istore 8, 2) := by decide +kernel
theorem dX11_lists_361 : decode cX11_lists 361 = .ok (.iload 8, 2) := by decide +kernel
theorem dX11_lists_363 : decode cX11_lists 363 = .ok (.ifCond .lt 21, 3) := by decide +kernel
theorem dX11_lists_366 : decode cX11_lists 366 = .ok (.aload_n 0, 1) := by decide +kernel
theorem dX11_lists_367 : decode cX11_lists 367 = .ok (.getfield 71, 3) := by decide +kernel
theorem dX11_lists_370 : decode cX11_lists 370 = .ok (.aload_n 0, 1) := by decide +kernel
theorem dX11_lists_371 : decode cX11_lists 371 = .ok (.dup, 1) := by decide +kernel
theorem dX11_lists_372 : decode cX11_lists 372 = .ok (.getfield 244, 3) := by decide +kernel
theorem dX11_lists_375 : decode cX11_lists 375 = .ok (.dup_x1, 1) := by decide +kernel
theorem dX11_lists_376 : decode cX11_lists 376 = .ok (.iconst 1, 1) := by decide +kernel
theorem dX11_lists_377 : decode cX11_lists 377 = .ok (.iadd, 1) := by decide +kernel
theorem dX11_lists_378 : decode cX11_lists 378 = .ok (.putfield 244, 3) := by decide +kernel
theorem dX11_lists_381 : decode cX11_lists 381 = .ok (.iload 8, 2) := by decide +kernel
theorem dX11_lists_383 : decode cX11_lists 383 = .ok (.iastore, 1) := by decide +kernel
theorem dX11_lists_384 : decode cX11_lists 384 = .ok (.iload 7, 2) := by decide +kernel
theorem dX11_lists_386 : decode cX11_lists 386 = .ok (.iload 5, 2) := by decide +kernel
theorem dX11_lists_388 : decode cX11_lists 388 = .ok (.iadd, 1) := by decide +kernel
theorem dX11_lists_389 : decode cX11_lists 389 = .ok (.istore 7, 2) := by decide +kernel
theorem dX11_lists_391 : decode cX11_lists 391 = .ok (.goto (-93), 3) := by decide +kernel
theorem dX11_lists_394 : decode cX11_lists 394 = .ok (.return_, 1) := by decide +kernel
theorem dX11_fifth_0 : decode cX11_fifth 0 = .ok (.sipush 400, 3) := by decide +kernel
theorem dX11_fifth_3 : decode cX11_fifth 3 = .ok (.iload_n 1, 1) := by decide +kernel
theorem dX11_fifth_4 : decode cX11_fifth 4 = .ok (.iadd, 1) := by decide +kernel
theorem dX11_fifth_5 : decode cX11_fifth 5 = .ok (.iload_n 0, 1) := by decide +kernel
theorem dX11_fifth_6 : decode cX11_fifth 6 = .ok (.bipush 12, 2) := by decide +kernel
theorem dX11_fifth_8 : decode cX11_fifth 8 = .ok (.idiv, 1) := by decide +kernel
theorem dX11_fifth_9 : decode cX11_fifth 9 = .ok (.iload_n 0, 1) := by decide +kernel
theorem dX11_fifth_10 : decode cX11_fifth 10 = .ok (.bipush 12, 2) := by decide +kernel
theorem dX11_fifth_12 : decode cX11_fifth 12 = .ok (.irem, 1) := by decide +kernel
theorem dX11_fifth_13 : decode cX11_fifth 13 = .ok (.iconst 1, 1) := by decide +kernel
theorem dX11_fifth_14 : decode cX11_fifth 14 = .ok (.iadd, 1) := by decide +kernel
theorem dX11_fifth_15 : decode cX11_fifth 15 = .ok (.invokestatic 174, 3) := by decide +kernel
theorem dX11_fifth_18 : decode cX11_fifth 18 = .ok (.bipush 7, 2) := by decide +kernel
theorem dX11_fifth_20 : decode cX11_fifth 20 = .ok (.iadd, 1) := by decide +kernel
theorem dX11_fifth_21 : decode cX11_fifth 21 = .ok (.istore_n 2, 1) := by decide +kernel
theorem dX11_fifth_22 : decode cX11_fifth 22 = .ok (.iload_n 2, 1) := by decide +kernel
theorem dX11_fifth_23 : decode cX11_fifth 23 = .ok (.iload_n 0, 1) := by decide +kernel
theorem dX11_fifth_24 : decode cX11_fifth 24 = .ok (.bipush 12, 2) := by decide +kernel
theorem dX11_fifth_26 : decode cX11_fifth 26 = .ok (.idiv, 1) := by decide +kernel
theorem dX11_fifth_27 : decode cX11_fifth 27 = .ok (.iload_n 0, 1) := by decide +kernel
theorem dX11_fifth_28 : decode cX11_fifth 28 = .ok (.bipush 12, 2) := by decide +kernel
theorem dX11_fifth_30 : decode cX11_fifth 30 = .ok (.irem, 1) := by decide +kernel
theorem dX11_fifth_31 : decode cX11_fifth 31 = .ok (.iconst 1, 1) := by decide +kernel
theorem dX11_fifth_32 : decode cX11_fifth 32 = .ok (.iadd, 1) := by decide +kernel
theorem dX11_fifth_33 : decode cX11_fifth 33 = .ok (.invokestatic 100, 3) := by decide +kernel
theorem dX11_fifth_36 : decode cX11_fifth 36 = .ok (.isub, 1) := by decide +kernel
theorem dX11_fifth_37 : decode cX11_fifth 37 = .ok (.iload_n 0, 1) := by decide +kernel
theorem dX11_fifth_38 : decode cX11_fifth 38 = .ok (.bipush 12, 2) := by decide +kernel
theorem dX11_fifth_40 : decode cX11_fifth 40 = .ok (.idiv, 1) := by decide +kernel
theorem dX11_fifth_41 : decode cX11_fifth 41 = .ok (.iload_n 0, 1) := by decide +kernel
theorem dX11_fifth_42 : decode cX11_fifth 42 = .ok (.bipush 12, 2) := by decide +kernel
theorem dX11_fifth_44 : decode cX11_fifth 44 = .ok (.irem, 1) := by decide +kernel
theorem dX11_fifth_45 : decode cX11_fifth 45 = .ok (.iconst 1, 1) := by decide +kernel
theorem dX11_fifth_46 : decode cX11_fifth 46 = .ok (.iadd, 1) := by decide +kernel
theorem dX11_fifth_47 : decode cX11_fifth 47 = .ok (.invokestatic 93, 3) := by decide +kernel
theorem dX11_fifth_50 : decode cX11_fifth 50 = .ok (.if_icmp .ge 7, 3) := by decide +kernel
theorem dX11_fifth_53 : decode cX11_fifth 53 = .ok (.iload_n 2, 1) := by decide +kernel
theorem dX11_fifth_54 : decode cX11_fifth 54 = .ok (.goto 4, 3) := by decide +kernel
theorem dX11_fifth_57 : decode cX11_fifth 57 = .ok (.iconst (-1), 1) := by decide +kernel
theorem dX11_fifth_58 : decode cX11_fifth 58 = .ok (.ireturn, 1) := by decide +kernel
theorem dX11_localOf_0 : decode cX11_localOf 0 = .ok (.iload_n 1, 1) := by decide +kernel
theorem dX11_localOf_1 : decode cX11_localOf 1 = .ok (.invokestatic 145, 3) := by decide +kernel
theorem dX11_localOf_4 : decode cX11_localOf 4 = .ok (.istore_n 3, 1) := by decide +kernel
theorem dX11_localOf_5 : decode cX11_localOf 5 = .ok (.sipush 1440, 3) := by decide +kernel
theorem dX11_localOf_8 : decode cX11_localOf 8 = .ok (.aload_n 0, 1) := by decide +kernel
theorem dX11_localOf_9 : decode cX11_localOf 9 = .ok (.getfield 71, 3) := by decide +kernel
theorem dX11_localOf_12 : decode cX11_localOf 12 = .ok (.iload_n 2, 1) := by decide +kernel
theorem dX11_localOf_13 : decode cX11_localOf 13 = .ok (.iaload, 1) := by decide +kernel
theorem dX11_localOf_14 : decode cX11_localOf 14 = .ok (.imul, 1) := by decide +kernel
theorem dX11_localOf_15 : decode cX11_localOf 15 = .ok (.aload_n 0, 1) := by decide +kernel
theorem dX11_localOf_16 : decode cX11_localOf 16 = .ok (.getfield 9, 3) := by decide +kernel
theorem dX11_localOf_19 : decode cX11_localOf 19 = .ok (.iload_n 3, 1) := by decide +kernel
theorem dX11_localOf_20 : decode cX11_localOf 20 = .ok (.iconst 2, 1) := by decide +kernel
theorem dX11_localOf_21 : decode cX11_localOf 21 = .ok (.iadd, 1) := by decide +kernel
theorem dX11_localOf_22 : decode cX11_localOf 22 = .ok (.iaload, 1) := by decide +kernel
theorem dX11_localOf_23 : decode cX11_localOf 23 = .ok (.iadd, 1) := by decide +kernel
theorem dX11_localOf_24 : decode cX11_localOf 24 = .ok (.aload_n 0, 1) := by decide +kernel
theorem dX11_localOf_25 : decode cX11_localOf 25 = .ok (.getfield 9, 3) := by decide +kernel
theorem dX11_localOf_28 : decode cX11_localOf 28 = .ok (.iload_n 3, 1) := by decide +kernel
theorem dX11_localOf_29 : decode cX11_localOf 29 = .ok (.bipush 9, 2) := by decide +kernel
theorem dX11_localOf_31 : decode cX11_localOf 31 = .ok (.iadd, 1) := by decide +kernel
theorem dX11_localOf_32 : decode cX11_localOf 32 = .ok (.iload_n 2, 1) := by decide +kernel
theorem dX11_localOf_33 : decode cX11_localOf 33 = .ok (.iadd, 1) := by decide +kernel
theorem dX11_localOf_34 : decode cX11_localOf 34 = .ok (.iaload, 1) := by decide +kernel
theorem dX11_localOf_35 : decode cX11_localOf 35 = .ok (.iadd, 1) := by decide +kernel
theorem dX11_localOf_36 : decode cX11_localOf 36 = .ok (.ireturn, 1) := by decide +kernel
theorem dX11_isVoid_0 : decode cX11_isVoid 0 = .ok (.iload_n 1, 1) := by decide +kernel
theorem dX11_isVoid_1 : decode cX11_isVoid 1 = .ok (.invokestatic 145, 3) := by decide +kernel
theorem dX11_isVoid_4 : decode cX11_isVoid 4 = .ok (.istore_n 3, 1) := by decide +kernel
theorem dX11_isVoid_5 : decode cX11_isVoid 5 = .ok (.aload_n 0, 1) := by decide +kernel
theorem dX11_isVoid_6 : decode cX11_isVoid 6 = .ok (.iload_n 1, 1) := by decide +kernel
theorem dX11_isVoid_7 : decode cX11_isVoid 7 = .ok (.iload_n 2, 1) := by decide +kernel
theorem dX11_isVoid_8 : decode cX11_isVoid 8 = .ok (.invokevirtual 250, 3) := by decide +kernel
theorem dX11_isVoid_11 : decode cX11_isVoid 11 = .ok (.invokestatic 225, 3) := by decide +kernel
theorem dX11_isVoid_14 : decode cX11_isVoid 14 = .ok (.ifCond .eq 30, 3) := by decide +kernel
theorem dX11_isVoid_17 : decode cX11_isVoid 17 = .ok (.aload_n 0, 1) := by decide +kernel
theorem dX11_isVoid_18 : decode cX11_isVoid 18 = .ok (.aload_n 0, 1) := by decide +kernel
theorem dX11_isVoid_19 : decode cX11_isVoid 19 = .ok (.getfield 9, 3) := by decide +kernel
theorem dX11_isVoid_22 : decode cX11_isVoid 22 = .ok (.iload_n 3, 1) := by decide +kernel
theorem dX11_isVoid_23 : decode cX11_isVoid 23 = .ok (.iaload, 1) := by decide +kernel
theorem dX11_isVoid_24 : decode cX11_isVoid 24 = .ok (.aload_n 0, 1) := by decide +kernel
theorem dX11_isVoid_25 : decode cX11_isVoid 25 = .ok (.iload_n 1, 1) := by decide +kernel
theorem dX11_isVoid_26 : decode cX11_isVoid 26 = .ok (.iload_n 2, 1) := by decide +kernel
theorem dX11_isVoid_27 : decode cX11_isVoid 27 = .ok (.invokevirtual 250, 3) := by decide +kernel
theorem dX11_isVoid_30 : decode cX11_isVoid 30 = .ok (.aload_n 0, 1) := by decide +kernel
theorem dX11_isVoid_31 : decode cX11_isVoid 31 = .ok (.getfield 9, 3) := by decide +kernel
theorem dX11_isVoid_34 : decode cX11_isVoid 34 = .ok (.iload_n 3, 1) := by decide +kernel
theorem dX11_isVoid_35 : decode cX11_isVoid 35 = .ok (.iconst 4, 1) := by decide +kernel
theorem dX11_isVoid_36 : decode cX11_isVoid 36 = .ok (.iadd, 1) := by decide +kernel
theorem dX11_isVoid_37 : decode cX11_isVoid 37 = .ok (.iaload, 1) := by decide +kernel
theorem dX11_isVoid_38 : decode cX11_isVoid 38 = .ok (.invokevirtual 228, 3) := by decide +kernel
theorem dX11_isVoid_41 : decode cX11_isVoid 41 = .ok (.ifCond .ne 7, 3) := by decide +kernel
theorem dX11_isVoid_44 : decode cX11_isVoid 44 = .ok (.iconst 1, 1) := by decide +kernel
theorem dX11_isVoid_45 : decode cX11_isVoid 45 = .ok (.goto 4, 3) := by decide +kernel
theorem dX11_isVoid_48 : decode cX11_isVoid 48 = .ok (.iconst 0, 1) := by decide +kernel
theorem dX11_isVoid_49 : decode cX11_isVoid 49 = .ok (.ireturn, 1) := by decide +kernel
theorem dX11_takesPlace_0 : decode cX11_takesPlace 0 = .ok (.aload_n 0, 1) := by decide +kernel
theorem dX11_takesPlace_1 : decode cX11_takesPlace 1 = .ok (.getfield 9, 3) := by decide +kernel
theorem dX11_takesPlace_4 : decode cX11_takesPlace 4 = .ok (.iload_n 1, 1) := by decide +kernel
theorem dX11_takesPlace_5 : decode cX11_takesPlace 5 = .ok (.invokestatic 145, 3) := by decide +kernel
theorem dX11_takesPlace_8 : decode cX11_takesPlace 8 = .ok (.bipush 49, 2) := by decide +kernel
theorem dX11_takesPlace_10 : decode cX11_takesPlace 10 = .ok (.iadd, 1) := by decide +kernel
theorem dX11_takesPlace_11 : decode cX11_takesPlace 11 = .ok (.iload_n 2, 1) := by decide +kernel
theorem dX11_takesPlace_12 : decode cX11_takesPlace 12 = .ok (.iadd, 1) := by decide +kernel
theorem dX11_takesPlace_13 : decode cX11_takesPlace 13 = .ok (.iaload, 1) := by decide +kernel
theorem dX11_takesPlace_14 : decode cX11_takesPlace 14 = .ok (.ifCond .ne 16, 3) := by decide +kernel
theorem dX11_takesPlace_17 : decode cX11_takesPlace 17 = .ok (.aload_n 0, 1) := by decide +kernel
theorem dX11_takesPlace_18 : decode cX11_takesPlace 18 = .ok (.iload_n 1, 1) := by decide +kernel
theorem dX11_takesPlace_19 : decode cX11_takesPlace 19 = .ok (.iload_n 2, 1) := by decide +kernel
theorem dX11_takesPlace_20 : decode cX11_takesPlace 20 = .ok (.invokevirtual 253, 3) := by decide +kernel
theorem dX11_takesPlace_23 : decode cX11_takesPlace 23 = .ok (.ifCond .ne 7, 3) := by decide +kernel
theorem dX11_takesPlace_26 : decode cX11_takesPlace 26 = .ok (.iconst 1, 1) := by decide +kernel
theorem dX11_takesPlace_27 : decode cX11_takesPlace 27 = .ok (.goto 4, 3) := by decide +kernel
theorem dX11_takesPlace_30 : decode cX11_takesPlace 30 = .ok (.iconst 0, 1) := by decide +kernel
theorem dX11_takesPlace_31 : decode cX11_takesPlace 31 = .ok (.ireturn, 1) := by decide +kernel
theorem dX11_placed_0 : decode cX11_placed 0 = .ok (.aload_n 0, 1) := by decide +kernel
theorem dX11_placed_1 : decode cX11_placed 1 = .ok (.iload_n 1, 1) := by decide +kernel
theorem dX11_placed_2 : decode cX11_placed 2 = .ok (.invokevirtual 241, 3) := by decide +kernel
theorem dX11_placed_5 : decode cX11_placed 5 = .ok (.iconst 0, 1) := by decide +kernel
theorem dX11_placed_6 : decode cX11_placed 6 = .ok (.istore_n 2, 1) := by decide +kernel
theorem dX11_placed_7 : decode cX11_placed 7 = .ok (.iconst 0, 1) := by decide +kernel
theorem dX11_placed_8 : decode cX11_placed 8 = .ok (.istore_n 3, 1) := by decide +kernel
theorem dX11_placed_9 : decode cX11_placed 9 = .ok (.iload_n 3, 1) := by decide +kernel
theorem dX11_placed_10 : decode cX11_placed 10 = .ok (.aload_n 0, 1) := by decide +kernel
theorem dX11_placed_11 : decode cX11_placed 11 = .ok (.getfield 244, 3) := by decide +kernel
theorem dX11_placed_14 : decode cX11_placed 14 = .ok (.if_icmp .ge 21, 3) := by decide +kernel
theorem dX11_placed_17 : decode cX11_placed 17 = .ok (.aload_n 0, 1) := by decide +kernel
theorem dX11_placed_18 : decode cX11_placed 18 = .ok (.iload_n 1, 1) := by decide +kernel
theorem dX11_placed_19 : decode cX11_placed 19 = .ok (.iload_n 3, 1) := by decide +kernel
theorem dX11_placed_20 : decode cX11_placed 20 = .ok (.invokevirtual 256, 3) := by decide +kernel
theorem dX11_placed_23 : decode cX11_placed 23 = .ok (.ifCond .eq 6, 3) := by decide +kernel
theorem dX11_placed_26 : decode cX11_placed 26 = .ok (.iinc 2 1, 3) := by decide +kernel
theorem dX11_placed_29 : decode cX11_placed 29 = .ok (.iinc 3 1, 3) := by decide +kernel
theorem dX11_placed_32 : decode cX11_placed 32 = .ok (.goto (-23), 3) := by decide +kernel
theorem dX11_placed_35 : decode cX11_placed 35 = .ok (.iload_n 2, 1) := by decide +kernel
theorem dX11_placed_36 : decode cX11_placed 36 = .ok (.ireturn, 1) := by decide +kernel
theorem dX11_addMeeting_0 : decode cX11_addMeeting 0 = .ok (.aload_n 0, 1) := by decide +kernel
theorem dX11_addMeeting_1 : decode cX11_addMeeting 1 = .ok (.iconst 0, 1) := by decide +kernel
theorem dX11_addMeeting_2 : decode cX11_addMeeting 2 = .ok (.putfield 80, 3) := by decide +kernel
theorem dX11_addMeeting_5 : decode cX11_addMeeting 5 = .ok (.aload_n 0, 1) := by decide +kernel
theorem dX11_addMeeting_6 : decode cX11_addMeeting 6 = .ok (.iload_n 1, 1) := by decide +kernel
theorem dX11_addMeeting_7 : decode cX11_addMeeting 7 = .ok (.invokevirtual 126, 3) := by decide +kernel
theorem dX11_addMeeting_10 : decode cX11_addMeeting 10 = .ok (.ifCond .ne 9, 3) := by decide +kernel
theorem dX11_addMeeting_13 : decode cX11_addMeeting 13 = .ok (.aload_n 0, 1) := by decide +kernel
theorem dX11_addMeeting_14 : decode cX11_addMeeting 14 = .ok (.iconst 1, 1) := by decide +kernel
theorem dX11_addMeeting_15 : decode cX11_addMeeting 15 = .ok (.invokevirtual 110, 3) := by decide +kernel
theorem dX11_addMeeting_18 : decode cX11_addMeeting 18 = .ok (.ireturn, 1) := by decide +kernel
theorem dX11_addMeeting_19 : decode cX11_addMeeting 19 = .ok (.iload_n 2, 1) := by decide +kernel
theorem dX11_addMeeting_20 : decode cX11_addMeeting 20 = .ok (.invokestatic 113, 3) := by decide +kernel
theorem dX11_addMeeting_23 : decode cX11_addMeeting 23 = .ok (.ifCond .eq 47, 3) := by decide +kernel
theorem dX11_addMeeting_26 : decode cX11_addMeeting 26 = .ok (.iload_n 3, 1) := by decide +kernel
theorem dX11_addMeeting_27 : decode cX11_addMeeting 27 = .ok (.iconst 0, 1) := by decide +kernel
theorem dX11_addMeeting_28 : decode cX11_addMeeting 28 = .ok (.sipush 1439, 3) := by decide +kernel
theorem dX11_addMeeting_31 : decode cX11_addMeeting 31 = .ok (.invokestatic 106, 3) := by decide +kernel
theorem dX11_addMeeting_34 : decode cX11_addMeeting 34 = .ok (.ifCond .eq 36, 3) := by decide +kernel
theorem dX11_addMeeting_37 : decode cX11_addMeeting 37 = .ok (.iload 4, 2) := by decide +kernel
theorem dX11_addMeeting_39 : decode cX11_addMeeting 39 = .ok (.iconst 1, 1) := by decide +kernel
theorem dX11_addMeeting_40 : decode cX11_addMeeting 40 = .ok (.sipush 1440, 3) := by decide +kernel
theorem dX11_addMeeting_43 : decode cX11_addMeeting 43 = .ok (.invokestatic 106, 3) := by decide +kernel
theorem dX11_addMeeting_46 : decode cX11_addMeeting 46 = .ok (.ifCond .eq 24, 3) := by decide +kernel
theorem dX11_addMeeting_49 : decode cX11_addMeeting 49 = .ok (.iload 5, 2) := by decide +kernel
theorem dX11_addMeeting_51 : decode cX11_addMeeting 51 = .ok (.iconst 0, 1) := by decide +kernel
theorem dX11_addMeeting_52 : decode cX11_addMeeting 52 = .ok (.iconst 3, 1) := by decide +kernel
theorem dX11_addMeeting_53 : decode cX11_addMeeting 53 = .ok (.invokestatic 106, 3) := by decide +kernel
theorem dX11_addMeeting_56 : decode cX11_addMeeting 56 = .ok (.ifCond .eq 14, 3) := by decide +kernel
theorem dX11_addMeeting_59 : decode cX11_addMeeting 59 = .ok (.iload 6, 2) := by decide +kernel
theorem dX11_addMeeting_61 : decode cX11_addMeeting 61 = .ok (.iconst 1, 1) := by decide +kernel
theorem dX11_addMeeting_62 : decode cX11_addMeeting 62 = .ok (.bipush 40, 2) := by decide +kernel
theorem dX11_addMeeting_64 : decode cX11_addMeeting 64 = .ok (.invokestatic 106, 3) := by decide +kernel
theorem dX11_addMeeting_67 : decode cX11_addMeeting 67 = .ok (.ifCond .ne 9, 3) := by decide +kernel
theorem dX11_addMeeting_70 : decode cX11_addMeeting 70 = .ok (.aload_n 0, 1) := by decide +kernel
theorem dX11_addMeeting_71 : decode cX11_addMeeting 71 = .ok (.iconst 2, 1) := by decide +kernel
theorem dX11_addMeeting_72 : decode cX11_addMeeting 72 = .ok (.invokevirtual 110, 3) := by decide +kernel
theorem dX11_addMeeting_75 : decode cX11_addMeeting 75 = .ok (.ireturn, 1) := by decide +kernel
theorem dX11_addMeeting_76 : decode cX11_addMeeting 76 = .ok (.aload_n 0, 1) := by decide +kernel
theorem dX11_addMeeting_77 : decode cX11_addMeeting 77 = .ok (.getfield 9, 3) := by decide +kernel
theorem dX11_addMeeting_80 : decode cX11_addMeeting 80 = .ok (.iconst 1, 1) := by decide +kernel
theorem dX11_addMeeting_81 : decode cX11_addMeeting 81 = .ok (.iaload, 1) := by decide +kernel
theorem dX11_addMeeting_82 : decode cX11_addMeeting 82 = .ok (.bipush 10, 2) := by decide +kernel
theorem dX11_addMeeting_84 : decode cX11_addMeeting 84 = .ok (.if_icmp .ne 9, 3) := by decide +kernel
theorem dX11_addMeeting_87 : decode cX11_addMeeting 87 = .ok (.aload_n 0, 1) := by decide +kernel
theorem dX11_addMeeting_88 : decode cX11_addMeeting 88 = .ok (.iconst 3, 1) := by decide +kernel
theorem dX11_addMeeting_89 : decode cX11_addMeeting 89 = .ok (.invokevirtual 110, 3) := by decide +kernel
theorem dX11_addMeeting_92 : decode cX11_addMeeting 92 = .ok (.ireturn, 1) := by decide +kernel
theorem dX11_addMeeting_93 : decode cX11_addMeeting 93 = .ok (.aload_n 0, 1) := by decide +kernel
theorem dX11_addMeeting_94 : decode cX11_addMeeting 94 = .ok (.invokevirtual 259, 3) := by decide +kernel
theorem dX11_addMeeting_97 : decode cX11_addMeeting 97 = .ok (.aload_n 0, 1) := by decide +kernel
theorem dX11_addMeeting_98 : decode cX11_addMeeting 98 = .ok (.getfield 9, 3) := by decide +kernel
theorem dX11_addMeeting_101 : decode cX11_addMeeting 101 = .ok (.iconst 1, 1) := by decide +kernel
theorem dX11_addMeeting_102 : decode cX11_addMeeting 102 = .ok (.iaload, 1) := by decide +kernel
theorem dX11_addMeeting_103 : decode cX11_addMeeting 103 = .ok (.invokestatic 145, 3) := by decide +kernel
theorem dX11_addMeeting_106 : decode cX11_addMeeting 106 = .ok (.istore 7, 2) := by decide +kernel
theorem dX11_addMeeting_108 : decode cX11_addMeeting 108 = .ok (.iconst 0, 1) := by decide +kernel
theorem dX11_addMeeting_109 : decode cX11_addMeeting 109 = .ok (.istore 8, 2) := by decide +kernel
theorem dX11_addMeeting_111 : decode cX11_addMeeting 111 = .ok (.iload 8, 2) := by decide +kernel
theorem dX11_addMeeting_113 : decode cX11_addMeeting 113 = .ok (.bipush 89, 2) := by decide +kernel
theorem dX11_addMeeting_115 : decode cX11_addMeeting 115 = .ok (.if_icmp .ge 20, 3) := by decide +kernel
theorem dX11_addMeeting_118 : decode cX11_addMeeting 118 = .ok (.aload_n 0, 1) := by decide +kernel
theorem dX11_addMeeting_119 : decode cX11_addMeeting 119 = .ok (.getfield 9, 3) := by decide +kernel
theorem dX11_addMeeting_122 : decode cX11_addMeeting 122 = .ok (.iload 7, 2) := by decide +kernel
theorem dX11_addMeeting_124 : decode cX11_addMeeting 124 = .ok (.iload 8, 2) := by decide +kernel
theorem dX11_addMeeting_126 : decode cX11_addMeeting 126 = .ok (.iadd, 1) := by decide +kernel
theorem dX11_addMeeting_127 : decode cX11_addMeeting 127 = .ok (.iconst 0, 1) := by decide +kernel
theorem dX11_addMeeting_128 : decode cX11_addMeeting 128 = .ok (.iastore, 1) := by decide +kernel
theorem dX11_addMeeting_129 : decode cX11_addMeeting 129 = .ok (.iinc 8 1, 3) := by decide +kernel
theorem dX11_addMeeting_132 : decode cX11_addMeeting 132 = .ok (.goto (-21), 3) := by decide +kernel
theorem dX11_addMeeting_135 : decode cX11_addMeeting 135 = .ok (.aload_n 0, 1) := by decide +kernel
theorem dX11_addMeeting_136 : decode cX11_addMeeting 136 = .ok (.getfield 9, 3) := by decide +kernel
theorem dX11_addMeeting_139 : decode cX11_addMeeting 139 = .ok (.iload 7, 2) := by decide +kernel
theorem dX11_addMeeting_141 : decode cX11_addMeeting 141 = .ok (.iload_n 1, 1) := by decide +kernel
theorem dX11_addMeeting_142 : decode cX11_addMeeting 142 = .ok (.iastore, 1) := by decide +kernel
theorem dX11_addMeeting_143 : decode cX11_addMeeting 143 = .ok (.aload_n 0, 1) := by decide +kernel
theorem dX11_addMeeting_144 : decode cX11_addMeeting 144 = .ok (.getfield 9, 3) := by decide +kernel
theorem dX11_addMeeting_147 : decode cX11_addMeeting 147 = .ok (.iload 7, 2) := by decide +kernel
theorem dX11_addMeeting_149 : decode cX11_addMeeting 149 = .ok (.iconst 1, 1) := by decide +kernel
theorem dX11_addMeeting_150 : decode cX11_addMeeting 150 = .ok (.iadd, 1) := by decide +kernel
theorem dX11_addMeeting_151 : decode cX11_addMeeting 151 = .ok (.iload_n 2, 1) := by decide +kernel
theorem dX11_addMeeting_152 : decode cX11_addMeeting 152 = .ok (.iastore, 1) := by decide +kernel
theorem dX11_addMeeting_153 : decode cX11_addMeeting 153 = .ok (.aload_n 0, 1) := by decide +kernel
theorem dX11_addMeeting_154 : decode cX11_addMeeting 154 = .ok (.getfield 9, 3) := by decide +kernel
theorem dX11_addMeeting_157 : decode cX11_addMeeting 157 = .ok (.iload 7, 2) := by decide +kernel
theorem dX11_addMeeting_159 : decode cX11_addMeeting 159 = .ok (.iconst 2, 1) := by decide +kernel
theorem dX11_addMeeting_160 : decode cX11_addMeeting 160 = .ok (.iadd, 1) := by decide +kernel
theorem dX11_addMeeting_161 : decode cX11_addMeeting 161 = .ok (.iload_n 3, 1) := by decide +kernel
theorem dX11_addMeeting_162 : decode cX11_addMeeting 162 = .ok (.iastore, 1) := by decide +kernel
theorem dX11_addMeeting_163 : decode cX11_addMeeting 163 = .ok (.aload_n 0, 1) := by decide +kernel
theorem dX11_addMeeting_164 : decode cX11_addMeeting 164 = .ok (.getfield 9, 3) := by decide +kernel
theorem dX11_addMeeting_167 : decode cX11_addMeeting 167 = .ok (.iload 7, 2) := by decide +kernel
theorem dX11_addMeeting_169 : decode cX11_addMeeting 169 = .ok (.iconst 3, 1) := by decide +kernel
theorem dX11_addMeeting_170 : decode cX11_addMeeting 170 = .ok (.iadd, 1) := by decide +kernel
theorem dX11_addMeeting_171 : decode cX11_addMeeting 171 = .ok (.iload 4, 2) := by decide +kernel
theorem dX11_addMeeting_173 : decode cX11_addMeeting 173 = .ok (.iastore, 1) := by decide +kernel
theorem dX11_addMeeting_174 : decode cX11_addMeeting 174 = .ok (.aload_n 0, 1) := by decide +kernel
theorem dX11_addMeeting_175 : decode cX11_addMeeting 175 = .ok (.getfield 9, 3) := by decide +kernel
theorem dX11_addMeeting_178 : decode cX11_addMeeting 178 = .ok (.iload 7, 2) := by decide +kernel
theorem dX11_addMeeting_180 : decode cX11_addMeeting 180 = .ok (.iconst 4, 1) := by decide +kernel
theorem dX11_addMeeting_181 : decode cX11_addMeeting 181 = .ok (.iadd, 1) := by decide +kernel
theorem dX11_addMeeting_182 : decode cX11_addMeeting 182 = .ok (.iload 5, 2) := by decide +kernel
theorem dX11_addMeeting_184 : decode cX11_addMeeting 184 = .ok (.iastore, 1) := by decide +kernel
theorem dX11_addMeeting_185 : decode cX11_addMeeting 185 = .ok (.aload_n 0, 1) := by decide +kernel
theorem dX11_addMeeting_186 : decode cX11_addMeeting 186 = .ok (.getfield 9, 3) := by decide +kernel
theorem dX11_addMeeting_189 : decode cX11_addMeeting 189 = .ok (.iload 7, 2) := by decide +kernel
theorem dX11_addMeeting_191 : decode cX11_addMeeting 191 = .ok (.iconst 5, 1) := by decide +kernel
theorem dX11_addMeeting_192 : decode cX11_addMeeting 192 = .ok (.iadd, 1) := by decide +kernel
theorem dX11_addMeeting_193 : decode cX11_addMeeting 193 = .ok (.iload 6, 2) := by decide +kernel
theorem dX11_addMeeting_195 : decode cX11_addMeeting 195 = .ok (.iastore, 1) := by decide +kernel
theorem dX11_addMeeting_196 : decode cX11_addMeeting 196 = .ok (.aload_n 0, 1) := by decide +kernel
theorem dX11_addMeeting_197 : decode cX11_addMeeting 197 = .ok (.getfield 9, 3) := by decide +kernel
theorem dX11_addMeeting_200 : decode cX11_addMeeting 200 = .ok (.iload 7, 2) := by decide +kernel
theorem dX11_addMeeting_202 : decode cX11_addMeeting 202 = .ok (.bipush 7, 2) := by decide +kernel
theorem dX11_addMeeting_204 : decode cX11_addMeeting 204 = .ok (.iadd, 1) := by decide +kernel
theorem dX11_addMeeting_205 : decode cX11_addMeeting 205 = .ok (.iconst 1, 1) := by decide +kernel
theorem dX11_addMeeting_206 : decode cX11_addMeeting 206 = .ok (.iastore, 1) := by decide +kernel
theorem dX11_addMeeting_207 : decode cX11_addMeeting 207 = .ok (.aload_n 0, 1) := by decide +kernel
theorem dX11_addMeeting_208 : decode cX11_addMeeting 208 = .ok (.getfield 9, 3) := by decide +kernel
theorem dX11_addMeeting_211 : decode cX11_addMeeting 211 = .ok (.iconst 1, 1) := by decide +kernel
theorem dX11_addMeeting_212 : decode cX11_addMeeting 212 = .ok (.dup2, 1) := by decide +kernel
theorem dX11_addMeeting_213 : decode cX11_addMeeting 213 = .ok (.iaload, 1) := by decide +kernel
theorem dX11_addMeeting_214 : decode cX11_addMeeting 214 = .ok (.dup_x2, 1) := by decide +kernel
theorem dX11_addMeeting_215 : decode cX11_addMeeting 215 = .ok (.iconst 1, 1) := by decide +kernel
theorem dX11_addMeeting_216 : decode cX11_addMeeting 216 = .ok (.iadd, 1) := by decide +kernel
theorem dX11_addMeeting_217 : decode cX11_addMeeting 217 = .ok (.iastore, 1) := by decide +kernel
theorem dX11_addMeeting_218 : decode cX11_addMeeting 218 = .ok (.ireturn, 1) := by decide +kernel
theorem dX11_recur_0 : decode cX11_recur 0 = .ok (.aload_n 0, 1) := by decide +kernel
theorem dX11_recur_1 : decode cX11_recur 1 = .ok (.iconst 0, 1) := by decide +kernel
theorem dX11_recur_2 : decode cX11_recur 2 = .ok (.putfield 80, 3) := by decide +kernel
theorem dX11_recur_5 : decode cX11_recur 5 = .ok (.aload_n 0, 1) := by decide +kernel
theorem dX11_recur_6 : decode cX11_recur 6 = .ok (.iload_n 1, 1) := by decide +kernel
theorem dX11_recur_7 : decode cX11_recur 7 = .ok (.invokevirtual 238, 3) := by decide +kernel
theorem dX11_recur_10 : decode cX11_recur 10 = .ok (.ifCond .ne 9, 3) := by decide +kernel
theorem dX11_recur_13 : decode cX11_recur 13 = .ok (.aload_n 0, 1) := by decide +kernel
theorem dX11_recur_14 : decode cX11_recur 14 = .ok (.iconst 1, 1) := by decide +kernel
theorem dX11_recur_15 : decode cX11_recur 15 = .ok (.invokevirtual 110, 3) := by decide +kernel
theorem dX11_recur_18 : decode cX11_recur 18 = .ok (.ireturn, 1) := by decide +kernel
theorem dX11_recur_19 : decode cX11_recur 19 = .ok (.iload_n 2, 1) := by decide +kernel
theorem dX11_recur_20 : decode cX11_recur 20 = .ok (.iconst 0, 1) := by decide +kernel
theorem dX11_recur_21 : decode cX11_recur 21 = .ok (.iconst 3, 1) := by decide +kernel
theorem dX11_recur_22 : decode cX11_recur 22 = .ok (.invokestatic 106, 3) := by decide +kernel
theorem dX11_recur_25 : decode cX11_recur 25 = .ok (.ifCond .eq 32, 3) := by decide +kernel
theorem dX11_recur_28 : decode cX11_recur 28 = .ok (.iload_n 3, 1) := by decide +kernel
theorem dX11_recur_29 : decode cX11_recur 29 = .ok (.iconst 1, 1) := by decide +kernel
theorem dX11_recur_30 : decode cX11_recur 30 = .ok (.iload_n 2, 1) := by decide +kernel
theorem dX11_recur_31 : decode cX11_recur 31 = .ok (.ifCond .ne 8, 3) := by decide +kernel
theorem dX11_recur_34 : decode cX11_recur 34 = .ok (.bipush 60, 2) := by decide +kernel
theorem dX11_recur_36 : decode cX11_recur 36 = .ok (.goto 15, 3) := by decide +kernel
theorem dX11_recur_39 : decode cX11_recur 39 = .ok (.iload_n 2, 1) := by decide +kernel
theorem dX11_recur_40 : decode cX11_recur 40 = .ok (.iconst 1, 1) := by decide +kernel
theorem dX11_recur_41 : decode cX11_recur 41 = .ok (.if_icmp .ne 8, 3) := by decide +kernel
theorem dX11_recur_44 : decode cX11_recur 44 = .ok (.bipush 8, 2) := by decide +kernel
theorem dX11_recur_46 : decode cX11_recur 46 = .ok (.goto 5, 3) := by decide +kernel
theorem dX11_recur_49 : decode cX11_recur 49 = .ok (.bipush 24, 2) := by decide +kernel
theorem dX11_recur_51 : decode cX11_recur 51 = .ok (.invokestatic 106, 3) := by decide +kernel
theorem dX11_recur_54 : decode cX11_recur 54 = .ok (.ifCond .ne 9, 3) := by decide +kernel
theorem dX11_recur_57 : decode cX11_recur 57 = .ok (.aload_n 0, 1) := by decide +kernel
theorem dX11_recur_58 : decode cX11_recur 58 = .ok (.iconst 2, 1) := by decide +kernel
theorem dX11_recur_59 : decode cX11_recur 59 = .ok (.invokevirtual 110, 3) := by decide +kernel
theorem dX11_recur_62 : decode cX11_recur 62 = .ok (.ireturn, 1) := by decide +kernel
theorem dX11_recur_63 : decode cX11_recur 63 = .ok (.iload_n 2, 1) := by decide +kernel
theorem dX11_recur_64 : decode cX11_recur 64 = .ok (.iconst 1, 1) := by decide +kernel
theorem dX11_recur_65 : decode cX11_recur 65 = .ok (.if_icmp .ne 17, 3) := by decide +kernel
theorem dX11_recur_68 : decode cX11_recur 68 = .ok (.iload 4, 2) := by decide +kernel
theorem dX11_recur_70 : decode cX11_recur 70 = .ok (.iconst 1, 1) := by decide +kernel
theorem dX11_recur_71 : decode cX11_recur 71 = .ok (.bipush 127, 2) := by decide +kernel
theorem dX11_recur_73 : decode cX11_recur 73 = .ok (.invokestatic 106, 3) := by decide +kernel
theorem dX11_recur_76 : decode cX11_recur 76 = .ok (.ifCond .ne 17, 3) := by decide +kernel
theorem dX11_recur_79 : decode cX11_recur 79 = .ok (.goto 8, 3) := by decide +kernel
theorem dX11_recur_82 : decode cX11_recur 82 = .ok (.iload 4, 2) := by decide +kernel
theorem dX11_recur_84 : decode cX11_recur 84 = .ok (.ifCond .eq 9, 3) := by decide +kernel
theorem dX11_recur_87 : decode cX11_recur 87 = .ok (.aload_n 0, 1) := by decide +kernel
theorem dX11_recur_88 : decode cX11_recur 88 = .ok (.iconst 2, 1) := by decide +kernel
theorem dX11_recur_89 : decode cX11_recur 89 = .ok (.invokevirtual 110, 3) := by decide +kernel
theorem dX11_recur_92 : decode cX11_recur 92 = .ok (.ireturn, 1) := by decide +kernel
theorem dX11_recur_93 : decode cX11_recur 93 = .ok (.aload_n 0, 1) := by decide +kernel
theorem dX11_recur_94 : decode cX11_recur 94 = .ok (.invokevirtual 259, 3) := by decide +kernel
theorem dX11_recur_97 : decode cX11_recur 97 = .ok (.iload_n 1, 1) := by decide +kernel
theorem dX11_recur_98 : decode cX11_recur 98 = .ok (.invokestatic 145, 3) := by decide +kernel
theorem dX11_recur_101 : decode cX11_recur 101 = .ok (.istore 5, 2) := by decide +kernel
theorem dX11_recur_103 : decode cX11_recur 103 = .ok (.aload_n 0, 1) := by decide +kernel
theorem dX11_recur_104 : decode cX11_recur 104 = .ok (.getfield 9, 3) := by decide +kernel
theorem dX11_recur_107 : decode cX11_recur 107 = .ok (.iload 5, 2) := by decide +kernel
theorem dX11_recur_109 : decode cX11_recur 109 = .ok (.bipush 6, 2) := by decide +kernel
theorem dX11_recur_111 : decode cX11_recur 111 = .ok (.iadd, 1) := by decide +kernel
theorem dX11_recur_112 : decode cX11_recur 112 = .ok (.iload_n 2, 1) := by decide +kernel
theorem dX11_recur_113 : decode cX11_recur 113 = .ok (.iastore, 1) := by decide +kernel
theorem dX11_recur_114 : decode cX11_recur 114 = .ok (.aload_n 0, 1) := by decide +kernel
theorem dX11_recur_115 : decode cX11_recur 115 = .ok (.getfield 9, 3) := by decide +kernel
theorem dX11_recur_118 : decode cX11_recur 118 = .ok (.iload 5, 2) := by decide +kernel
theorem dX11_recur_120 : decode cX11_recur 120 = .ok (.bipush 7, 2) := by decide +kernel
theorem dX11_recur_122 : decode cX11_recur 122 = .ok (.iadd, 1) := by decide +kernel
theorem dX11_recur_123 : decode cX11_recur 123 = .ok (.iload_n 3, 1) := by decide +kernel
theorem dX11_recur_124 : decode cX11_recur 124 = .ok (.iastore, 1) := by decide +kernel
theorem dX11_recur_125 : decode cX11_recur 125 = .ok (.aload_n 0, 1) := by decide +kernel
theorem dX11_recur_126 : decode cX11_recur 126 = .ok (.getfield 9, 3) := by decide +kernel
theorem dX11_recur_129 : decode cX11_recur 129 = .ok (.iload 5, 2) := by decide +kernel
theorem dX11_recur_131 : decode cX11_recur 131 = .ok (.bipush 8, 2) := by decide +kernel
theorem dX11_recur_133 : decode cX11_recur 133 = .ok (.iadd, 1) := by decide +kernel
theorem dX11_recur_134 : decode cX11_recur 134 = .ok (.iload 4, 2) := by decide +kernel
theorem dX11_recur_136 : decode cX11_recur 136 = .ok (.iastore, 1) := by decide +kernel
theorem dX11_recur_137 : decode cX11_recur 137 = .ok (.iconst 0, 1) := by decide +kernel
theorem dX11_recur_138 : decode cX11_recur 138 = .ok (.istore 6, 2) := by decide +kernel
theorem dX11_recur_140 : decode cX11_recur 140 = .ok (.iload 6, 2) := by decide +kernel
theorem dX11_recur_142 : decode cX11_recur 142 = .ok (.bipush 80, 2) := by decide +kernel
theorem dX11_recur_144 : decode cX11_recur 144 = .ok (.if_icmp .ge 23, 3) := by decide +kernel
theorem dX11_recur_147 : decode cX11_recur 147 = .ok (.aload_n 0, 1) := by decide +kernel
theorem dX11_recur_148 : decode cX11_recur 148 = .ok (.getfield 9, 3) := by decide +kernel
theorem dX11_recur_151 : decode cX11_recur 151 = .ok (.iload 5, 2) := by decide +kernel
theorem dX11_recur_153 : decode cX11_recur 153 = .ok (.bipush 9, 2) := by decide +kernel
theorem dX11_recur_155 : decode cX11_recur 155 = .ok (.iadd, 1) := by decide +kernel
theorem dX11_recur_156 : decode cX11_recur 156 = .ok (.iload 6, 2) := by decide +kernel
theorem dX11_recur_158 : decode cX11_recur 158 = .ok (.iadd, 1) := by decide +kernel
theorem dX11_recur_159 : decode cX11_recur 159 = .ok (.iconst 0, 1) := by decide +kernel
theorem dX11_recur_160 : decode cX11_recur 160 = .ok (.iastore, 1) := by decide +kernel
theorem dX11_recur_161 : decode cX11_recur 161 = .ok (.iinc 6 1, 3) := by decide +kernel
theorem dX11_recur_164 : decode cX11_recur 164 = .ok (.goto (-24), 3) := by decide +kernel
theorem dX11_recur_167 : decode cX11_recur 167 = .ok (.aload_n 0, 1) := by decide +kernel
theorem dX11_recur_168 : decode cX11_recur 168 = .ok (.iload_n 1, 1) := by decide +kernel
theorem dX11_recur_169 : decode cX11_recur 169 = .ok (.invokevirtual 241, 3) := by decide +kernel
theorem dX11_recur_172 : decode cX11_recur 172 = .ok (.aload_n 0, 1) := by decide +kernel
theorem dX11_recur_173 : decode cX11_recur 173 = .ok (.getfield 244, 3) := by decide +kernel
theorem dX11_recur_176 : decode cX11_recur 176 = .ok (.ireturn, 1) := by decide +kernel
theorem dX11_cancel_0 : decode cX11_cancel 0 = .ok (.aload_n 0, 1) := by decide +kernel
theorem dX11_cancel_1 : decode cX11_cancel 1 = .ok (.invokevirtual 148, 3) := by decide +kernel
theorem dX11_cancel_4 : decode cX11_cancel 4 = .ok (.aload_n 0, 1) := by decide +kernel
theorem dX11_cancel_5 : decode cX11_cancel 5 = .ok (.aload_n 0, 1) := by decide +kernel
theorem dX11_cancel_6 : decode cX11_cancel 6 = .ok (.iload_n 1, 1) := by decide +kernel
theorem dX11_cancel_7 : decode cX11_cancel 7 = .ok (.iload_n 2, 1) := by decide +kernel
theorem dX11_cancel_8 : decode cX11_cancel 8 = .ok (.invokevirtual 262, 3) := by decide +kernel
theorem dX11_cancel_11 : decode cX11_cancel 11 = .ok (.invokevirtual 154, 3) := by decide +kernel
theorem dX11_cancel_14 : decode cX11_cancel 14 = .ok (.ireturn, 1) := by decide +kernel
theorem dX11_shift_0 : decode cX11_shift 0 = .ok (.aload_n 0, 1) := by decide +kernel
theorem dX11_shift_1 : decode cX11_shift 1 = .ok (.iconst 0, 1) := by decide +kernel
theorem dX11_shift_2 : decode cX11_shift 2 = .ok (.putfield 80, 3) := by decide +kernel
theorem dX11_shift_5 : decode cX11_shift 5 = .ok (.aload_n 0, 1) := by decide +kernel
theorem dX11_shift_6 : decode cX11_shift 6 = .ok (.iload_n 1, 1) := by decide +kernel
theorem dX11_shift_7 : decode cX11_shift 7 = .ok (.iload_n 2, 1) := by decide +kernel
theorem dX11_shift_8 : decode cX11_shift 8 = .ok (.invokevirtual 142, 3) := by decide +kernel
theorem dX11_shift_11 : decode cX11_shift 11 = .ok (.ifCond .ne 9, 3) := by decide +kernel
theorem dX11_shift_14 : decode cX11_shift 14 = .ok (.aload_n 0, 1) := by decide +kernel
theorem dX11_shift_15 : decode cX11_shift 15 = .ok (.iconst 1, 1) := by decide +kernel
theorem dX11_shift_16 : decode cX11_shift 16 = .ok (.invokevirtual 110, 3) := by decide +kernel
theorem dX11_shift_19 : decode cX11_shift 19 = .ok (.ireturn, 1) := by decide +kernel
theorem dX11_shift_20 : decode cX11_shift 20 = .ok (.iload_n 3, 1) := by decide +kernel
theorem dX11_shift_21 : decode cX11_shift 21 = .ok (.sipush (-1440), 3) := by decide +kernel
theorem dX11_shift_24 : decode cX11_shift 24 = .ok (.sipush 1440, 3) := by decide +kernel
theorem dX11_shift_27 : decode cX11_shift 27 = .ok (.invokestatic 106, 3) := by decide +kernel
theorem dX11_shift_30 : decode cX11_shift 30 = .ok (.ifCond .ne 9, 3) := by decide +kernel
theorem dX11_shift_33 : decode cX11_shift 33 = .ok (.aload_n 0, 1) := by decide +kernel
theorem dX11_shift_34 : decode cX11_shift 34 = .ok (.iconst 2, 1) := by decide +kernel
theorem dX11_shift_35 : decode cX11_shift 35 = .ok (.invokevirtual 110, 3) := by decide +kernel
theorem dX11_shift_38 : decode cX11_shift 38 = .ok (.ireturn, 1) := by decide +kernel
theorem dX11_shift_39 : decode cX11_shift 39 = .ok (.aload_n 0, 1) := by decide +kernel
theorem dX11_shift_40 : decode cX11_shift 40 = .ok (.invokevirtual 259, 3) := by decide +kernel
theorem dX11_shift_43 : decode cX11_shift 43 = .ok (.iload_n 1, 1) := by decide +kernel
theorem dX11_shift_44 : decode cX11_shift 44 = .ok (.invokestatic 145, 3) := by decide +kernel
theorem dX11_shift_47 : decode cX11_shift 47 = .ok (.bipush 9, 2) := by decide +kernel
theorem dX11_shift_49 : decode cX11_shift 49 = .ok (.iadd, 1) := by decide +kernel
theorem dX11_shift_50 : decode cX11_shift 50 = .ok (.iload_n 2, 1) := by decide +kernel
theorem dX11_shift_51 : decode cX11_shift 51 = .ok (.iadd, 1) := by decide +kernel
theorem dX11_shift_52 : decode cX11_shift 52 = .ok (.istore 4, 2) := by decide +kernel
theorem dX11_shift_54 : decode cX11_shift 54 = .ok (.aload_n 0, 1) := by decide +kernel
theorem dX11_shift_55 : decode cX11_shift 55 = .ok (.getfield 9, 3) := by decide +kernel
theorem dX11_shift_58 : decode cX11_shift 58 = .ok (.iload 4, 2) := by decide +kernel
theorem dX11_shift_60 : decode cX11_shift 60 = .ok (.iaload, 1) := by decide +kernel
theorem dX11_shift_61 : decode cX11_shift 61 = .ok (.istore 5, 2) := by decide +kernel
theorem dX11_shift_63 : decode cX11_shift 63 = .ok (.aload_n 0, 1) := by decide +kernel
theorem dX11_shift_64 : decode cX11_shift 64 = .ok (.getfield 9, 3) := by decide +kernel
theorem dX11_shift_67 : decode cX11_shift 67 = .ok (.iload 4, 2) := by decide +kernel
theorem dX11_shift_69 : decode cX11_shift 69 = .ok (.iload_n 3, 1) := by decide +kernel
theorem dX11_shift_70 : decode cX11_shift 70 = .ok (.iastore, 1) := by decide +kernel
theorem dX11_shift_71 : decode cX11_shift 71 = .ok (.iload 5, 2) := by decide +kernel
theorem dX11_shift_73 : decode cX11_shift 73 = .ok (.ireturn, 1) := by decide +kernel
theorem dX11_meeting_0 : decode cX11_meeting 0 = .ok (.aload_n 0, 1) := by decide +kernel
theorem dX11_meeting_1 : decode cX11_meeting 1 = .ok (.iconst 0, 1) := by decide +kernel
theorem dX11_meeting_2 : decode cX11_meeting 2 = .ok (.putfield 80, 3) := by decide +kernel
theorem dX11_meeting_5 : decode cX11_meeting 5 = .ok (.aload_n 0, 1) := by decide +kernel
theorem dX11_meeting_6 : decode cX11_meeting 6 = .ok (.iload_n 1, 1) := by decide +kernel
theorem dX11_meeting_7 : decode cX11_meeting 7 = .ok (.invokevirtual 238, 3) := by decide +kernel
theorem dX11_meeting_10 : decode cX11_meeting 10 = .ok (.ifCond .ne 9, 3) := by decide +kernel
theorem dX11_meeting_13 : decode cX11_meeting 13 = .ok (.aload_n 0, 1) := by decide +kernel
theorem dX11_meeting_14 : decode cX11_meeting 14 = .ok (.iconst 1, 1) := by decide +kernel
theorem dX11_meeting_15 : decode cX11_meeting 15 = .ok (.invokevirtual 110, 3) := by decide +kernel
theorem dX11_meeting_18 : decode cX11_meeting 18 = .ok (.ireturn, 1) := by decide +kernel
theorem dX11_meeting_19 : decode cX11_meeting 19 = .ok (.iload_n 2, 1) := by decide +kernel
theorem dX11_meeting_20 : decode cX11_meeting 20 = .ok (.iconst 0, 1) := by decide +kernel
theorem dX11_meeting_21 : decode cX11_meeting 21 = .ok (.bipush 9, 2) := by decide +kernel
theorem dX11_meeting_23 : decode cX11_meeting 23 = .ok (.invokestatic 106, 3) := by decide +kernel
theorem dX11_meeting_26 : decode cX11_meeting 26 = .ok (.ifCond .ne 9, 3) := by decide +kernel
theorem dX11_meeting_29 : decode cX11_meeting 29 = .ok (.aload_n 0, 1) := by decide +kernel
theorem dX11_meeting_30 : decode cX11_meeting 30 = .ok (.iconst 2, 1) := by decide +kernel
theorem dX11_meeting_31 : decode cX11_meeting 31 = .ok (.invokevirtual 110, 3) := by decide +kernel
theorem dX11_meeting_34 : decode cX11_meeting 34 = .ok (.ireturn, 1) := by decide +kernel
theorem dX11_meeting_35 : decode cX11_meeting 35 = .ok (.iload_n 2, 1) := by decide +kernel
theorem dX11_meeting_36 : decode cX11_meeting 36 = .ok (.iconst 5, 1) := by decide +kernel
theorem dX11_meeting_37 : decode cX11_meeting 37 = .ok (.if_icmp .ge 15, 3) := by decide +kernel
theorem dX11_meeting_40 : decode cX11_meeting 40 = .ok (.aload_n 0, 1) := by decide +kernel
theorem dX11_meeting_41 : decode cX11_meeting 41 = .ok (.getfield 9, 3) := by decide +kernel
theorem dX11_meeting_44 : decode cX11_meeting 44 = .ok (.iload_n 1, 1) := by decide +kernel
theorem dX11_meeting_45 : decode cX11_meeting 45 = .ok (.invokestatic 145, 3) := by decide +kernel
theorem dX11_meeting_48 : decode cX11_meeting 48 = .ok (.iload_n 2, 1) := by decide +kernel
theorem dX11_meeting_49 : decode cX11_meeting 49 = .ok (.iadd, 1) := by decide +kernel
theorem dX11_meeting_50 : decode cX11_meeting 50 = .ok (.iaload, 1) := by decide +kernel
theorem dX11_meeting_51 : decode cX11_meeting 51 = .ok (.ireturn, 1) := by decide +kernel
theorem dX11_meeting_52 : decode cX11_meeting 52 = .ok (.iload_n 2, 1) := by decide +kernel
theorem dX11_meeting_53 : decode cX11_meeting 53 = .ok (.bipush 8, 2) := by decide +kernel
theorem dX11_meeting_55 : decode cX11_meeting 55 = .ok (.if_icmp .ge 17, 3) := by decide +kernel
theorem dX11_meeting_58 : decode cX11_meeting 58 = .ok (.aload_n 0, 1) := by decide +kernel
theorem dX11_meeting_59 : decode cX11_meeting 59 = .ok (.getfield 9, 3) := by decide +kernel
theorem dX11_meeting_62 : decode cX11_meeting 62 = .ok (.iload_n 1, 1) := by decide +kernel
theorem dX11_meeting_63 : decode cX11_meeting 63 = .ok (.invokestatic 145, 3) := by decide +kernel
theorem dX11_meeting_66 : decode cX11_meeting 66 = .ok (.iload_n 2, 1) := by decide +kernel
theorem dX11_meeting_67 : decode cX11_meeting 67 = .ok (.iadd, 1) := by decide +kernel
theorem dX11_meeting_68 : decode cX11_meeting 68 = .ok (.iconst 1, 1) := by decide +kernel
theorem dX11_meeting_69 : decode cX11_meeting 69 = .ok (.iadd, 1) := by decide +kernel
theorem dX11_meeting_70 : decode cX11_meeting 70 = .ok (.iaload, 1) := by decide +kernel
theorem dX11_meeting_71 : decode cX11_meeting 71 = .ok (.ireturn, 1) := by decide +kernel
theorem dX11_meeting_72 : decode cX11_meeting 72 = .ok (.aload_n 0, 1) := by decide +kernel
theorem dX11_meeting_73 : decode cX11_meeting 73 = .ok (.iload_n 1, 1) := by decide +kernel
theorem dX11_meeting_74 : decode cX11_meeting 74 = .ok (.invokevirtual 241, 3) := by decide +kernel
theorem dX11_meeting_77 : decode cX11_meeting 77 = .ok (.iload_n 2, 1) := by decide +kernel
theorem dX11_meeting_78 : decode cX11_meeting 78 = .ok (.bipush 8, 2) := by decide +kernel
theorem dX11_meeting_80 : decode cX11_meeting 80 = .ok (.if_icmp .ne 10, 3) := by decide +kernel
theorem dX11_meeting_83 : decode cX11_meeting 83 = .ok (.aload_n 0, 1) := by decide +kernel
theorem dX11_meeting_84 : decode cX11_meeting 84 = .ok (.getfield 244, 3) := by decide +kernel
theorem dX11_meeting_87 : decode cX11_meeting 87 = .ok (.goto 8, 3) := by decide +kernel
theorem dX11_meeting_90 : decode cX11_meeting 90 = .ok (.aload_n 0, 1) := by decide +kernel
theorem dX11_meeting_91 : decode cX11_meeting 91 = .ok (.iload_n 1, 1) := by decide +kernel
theorem dX11_meeting_92 : decode cX11_meeting 92 = .ok (.invokevirtual 265, 3) := by decide +kernel
theorem dX11_meeting_95 : decode cX11_meeting 95 = .ok (.ireturn, 1) := by decide +kernel
theorem dX11_occurrence_0 : decode cX11_occurrence 0 = .ok (.aload_n 0, 1) := by decide +kernel
theorem dX11_occurrence_1 : decode cX11_occurrence 1 = .ok (.iconst 0, 1) := by decide +kernel
theorem dX11_occurrence_2 : decode cX11_occurrence 2 = .ok (.putfield 80, 3) := by decide +kernel
theorem dX11_occurrence_5 : decode cX11_occurrence 5 = .ok (.aload_n 0, 1) := by decide +kernel
theorem dX11_occurrence_6 : decode cX11_occurrence 6 = .ok (.iload_n 1, 1) := by decide +kernel
theorem dX11_occurrence_7 : decode cX11_occurrence 7 = .ok (.iload_n 2, 1) := by decide +kernel
theorem dX11_occurrence_8 : decode cX11_occurrence 8 = .ok (.invokevirtual 142, 3) := by decide +kernel
theorem dX11_occurrence_11 : decode cX11_occurrence 11 = .ok (.ifCond .ne 9, 3) := by decide +kernel
theorem dX11_occurrence_14 : decode cX11_occurrence 14 = .ok (.aload_n 0, 1) := by decide +kernel
theorem dX11_occurrence_15 : decode cX11_occurrence 15 = .ok (.iconst 1, 1) := by decide +kernel
theorem dX11_occurrence_16 : decode cX11_occurrence 16 = .ok (.invokevirtual 110, 3) := by decide +kernel
theorem dX11_occurrence_19 : decode cX11_occurrence 19 = .ok (.ireturn, 1) := by decide +kernel
theorem dX11_occurrence_20 : decode cX11_occurrence 20 = .ok (.iload_n 3, 1) := by decide +kernel
theorem dX11_occurrence_21 : decode cX11_occurrence 21 = .ok (.iconst 0, 1) := by decide +kernel
theorem dX11_occurrence_22 : decode cX11_occurrence 22 = .ok (.iconst 5, 1) := by decide +kernel
theorem dX11_occurrence_23 : decode cX11_occurrence 23 = .ok (.invokestatic 106, 3) := by decide +kernel
theorem dX11_occurrence_26 : decode cX11_occurrence 26 = .ok (.ifCond .ne 9, 3) := by decide +kernel
theorem dX11_occurrence_29 : decode cX11_occurrence 29 = .ok (.aload_n 0, 1) := by decide +kernel
theorem dX11_occurrence_30 : decode cX11_occurrence 30 = .ok (.iconst 2, 1) := by decide +kernel
theorem dX11_occurrence_31 : decode cX11_occurrence 31 = .ok (.invokevirtual 110, 3) := by decide +kernel
theorem dX11_occurrence_34 : decode cX11_occurrence 34 = .ok (.ireturn, 1) := by decide +kernel
theorem dX11_occurrence_35 : decode cX11_occurrence 35 = .ok (.iload_n 1, 1) := by decide +kernel
theorem dX11_occurrence_36 : decode cX11_occurrence 36 = .ok (.invokestatic 145, 3) := by decide +kernel
theorem dX11_occurrence_39 : decode cX11_occurrence 39 = .ok (.istore 4, 2) := by decide +kernel
theorem dX11_occurrence_41 : decode cX11_occurrence 41 = .ok (.aload_n 0, 1) := by decide +kernel
theorem dX11_occurrence_42 : decode cX11_occurrence 42 = .ok (.iload_n 1, 1) := by decide +kernel
theorem dX11_occurrence_43 : decode cX11_occurrence 43 = .ok (.iload_n 2, 1) := by decide +kernel
theorem dX11_occurrence_44 : decode cX11_occurrence 44 = .ok (.invokevirtual 250, 3) := by decide +kernel
theorem dX11_occurrence_47 : decode cX11_occurrence 47 = .ok (.istore 5, 2) := by decide +kernel
theorem dX11_occurrence_49 : decode cX11_occurrence 49 = .ok (.iload_n 3, 1) := by decide +kernel
theorem dX11_occurrence_50 : decode cX11_occurrence 50 = .ok (.ifCond .ne 10, 3) := by decide +kernel
theorem dX11_occurrence_53 : decode cX11_occurrence 53 = .ok (.aload_n 0, 1) := by decide +kernel
theorem dX11_occurrence_54 : decode cX11_occurrence 54 = .ok (.getfield 71, 3) := by decide +kernel
theorem dX11_occurrence_57 : decode cX11_occurrence 57 = .ok (.iload_n 2, 1) := by decide +kernel
theorem dX11_occurrence_58 : decode cX11_occurrence 58 = .ok (.iaload, 1) := by decide +kernel
theorem dX11_occurrence_59 : decode cX11_occurrence 59 = .ok (.ireturn, 1) := by decide +kernel
theorem dX11_occurrence_60 : decode cX11_occurrence 60 = .ok (.iload_n 3, 1) := by decide +kernel
theorem dX11_occurrence_61 : decode cX11_occurrence 61 = .ok (.iconst 1, 1) := by decide +kernel
theorem dX11_occurrence_62 : decode cX11_occurrence 62 = .ok (.if_icmp .ne 6, 3) := by decide +kernel
theorem dX11_occurrence_65 : decode cX11_occurrence 65 = .ok (.iload 5, 2) := by decide +kernel
theorem dX11_occurrence_67 : decode cX11_occurrence 67 = .ok (.ireturn, 1) := by decide +kernel
theorem dX11_occurrence_68 : decode cX11_occurrence 68 = .ok (.iload_n 3, 1) := by decide +kernel
theorem dX11_occurrence_69 : decode cX11_occurrence 69 = .ok (.iconst 2, 1) := by decide +kernel
theorem dX11_occurrence_70 : decode cX11_occurrence 70 = .ok (.if_icmp .ne 16, 3) := by decide +kernel
theorem dX11_occurrence_73 : decode cX11_occurrence 73 = .ok (.aload_n 0, 1) := by decide +kernel
theorem dX11_occurrence_74 : decode cX11_occurrence 74 = .ok (.getfield 9, 3) := by decide +kernel
theorem dX11_occurrence_77 : decode cX11_occurrence 77 = .ok (.iload 4, 2) := by decide +kernel
theorem dX11_occurrence_79 : decode cX11_occurrence 79 = .ok (.bipush 9, 2) := by decide +kernel
theorem dX11_occurrence_81 : decode cX11_occurrence 81 = .ok (.iadd, 1) := by decide +kernel
theorem dX11_occurrence_82 : decode cX11_occurrence 82 = .ok (.iload_n 2, 1) := by decide +kernel
theorem dX11_occurrence_83 : decode cX11_occurrence 83 = .ok (.iadd, 1) := by decide +kernel
theorem dX11_occurrence_84 : decode cX11_occurrence 84 = .ok (.iaload, 1) := by decide +kernel
theorem dX11_occurrence_85 : decode cX11_occurrence 85 = .ok (.ireturn, 1) := by decide +kernel
theorem dX11_occurrence_86 : decode cX11_occurrence 86 = .ok (.iload_n 3, 1) := by decide +kernel
theorem dX11_occurrence_87 : decode cX11_occurrence 87 = .ok (.iconst 3, 1) := by decide +kernel
theorem dX11_occurrence_88 : decode cX11_occurrence 88 = .ok (.if_icmp .ne 38, 3) := by decide +kernel
theorem dX11_occurrence_91 : decode cX11_occurrence 91 = .ok (.aload_n 0, 1) := by decide +kernel
theorem dX11_occurrence_92 : decode cX11_occurrence 92 = .ok (.getfield 9, 3) := by decide +kernel
theorem dX11_occurrence_95 : decode cX11_occurrence 95 = .ok (.iload 4, 2) := by decide +kernel
theorem dX11_occurrence_97 : decode cX11_occurrence 97 = .ok (.bipush 49, 2) := by decide +kernel
theorem dX11_occurrence_99 : decode cX11_occurrence 99 = .ok (.iadd, 1) := by decide +kernel
theorem dX11_occurrence_100 : decode cX11_occurrence 100 = .ok (.iload_n 2, 1) := by decide +kernel
theorem dX11_occurrence_101 : decode cX11_occurrence 101 = .ok (.iadd, 1) := by decide +kernel
theorem dX11_occurrence_102 : decode cX11_occurrence 102 = .ok (.iaload, 1) := by decide +kernel
theorem dX11_occurrence_103 : decode cX11_occurrence 103 = .ok (.iconst 1, 1) := by decide +kernel
theorem dX11_occurrence_104 : decode cX11_occurrence 104 = .ok (.if_icmp .ne 7, 3) := by decide +kernel
theorem dX11_occurrence_107 : decode cX11_occurrence 107 = .ok (.iconst 1, 1) := by decide +kernel
theorem dX11_occurrence_108 : decode cX11_occurrence 108 = .ok (.goto 17, 3) := by decide +kernel
theorem dX11_occurrence_111 : decode cX11_occurrence 111 = .ok (.aload_n 0, 1) := by decide +kernel
theorem dX11_occurrence_112 : decode cX11_occurrence 112 = .ok (.iload_n 1, 1) := by decide +kernel
theorem dX11_occurrence_113 : decode cX11_occurrence 113 = .ok (.iload_n 2, 1) := by decide +kernel
theorem dX11_occurrence_114 : decode cX11_occurrence 114 = .ok (.invokevirtual 253, 3) := by decide +kernel
theorem dX11_occurrence_117 : decode cX11_occurrence 117 = .ok (.ifCond .eq 7, 3) := by decide +kernel
theorem dX11_occurrence_120 : decode cX11_occurrence 120 = .ok (.iconst 2, 1) := by decide +kernel
theorem dX11_occurrence_121 : decode cX11_occurrence 121 = .ok (.goto 4, 3) := by decide +kernel
theorem dX11_occurrence_124 : decode cX11_occurrence 124 = .ok (.iconst 0, 1) := by decide +kernel
theorem dX11_occurrence_125 : decode cX11_occurrence 125 = .ok (.ireturn, 1) := by decide +kernel
theorem dX11_occurrence_126 : decode cX11_occurrence 126 = .ok (.iload_n 3, 1) := by decide +kernel
theorem dX11_occurrence_127 : decode cX11_occurrence 127 = .ok (.iconst 4, 1) := by decide +kernel
theorem dX11_occurrence_128 : decode cX11_occurrence 128 = .ok (.if_icmp .ne 31, 3) := by decide +kernel
theorem dX11_occurrence_131 : decode cX11_occurrence 131 = .ok (.iload 5, 2) := by decide +kernel
theorem dX11_occurrence_133 : decode cX11_occurrence 133 = .ok (.invokestatic 225, 3) := by decide +kernel
theorem dX11_occurrence_136 : decode cX11_occurrence 136 = .ok (.ifCond .ne 5, 3) := by decide +kernel
theorem dX11_occurrence_139 : decode cX11_occurrence 139 = .ok (.iconst (-1), 1) := by decide +kernel
theorem dX11_occurrence_140 : decode cX11_occurrence 140 = .ok (.ireturn, 1) := by decide +kernel
theorem dX11_occurrence_141 : decode cX11_occurrence 141 = .ok (.aload_n 0, 1) := by decide +kernel
theorem dX11_occurrence_142 : decode cX11_occurrence 142 = .ok (.aload_n 0, 1) := by decide +kernel
theorem dX11_occurrence_143 : decode cX11_occurrence 143 = .ok (.getfield 9, 3) := by decide +kernel
theorem dX11_occurrence_146 : decode cX11_occurrence 146 = .ok (.iload 4, 2) := by decide +kernel
theorem dX11_occurrence_148 : decode cX11_occurrence 148 = .ok (.iaload, 1) := by decide +kernel
theorem dX11_occurrence_149 : decode cX11_occurrence 149 = .ok (.iload 5, 2) := by decide +kernel
theorem dX11_occurrence_151 : decode cX11_occurrence 151 = .ok (.invokevirtual 219, 3) := by decide +kernel
theorem dX11_occurrence_154 : decode cX11_occurrence 154 = .ok (.aload_n 0, 1) := by decide +kernel
theorem dX11_occurrence_155 : decode cX11_occurrence 155 = .ok (.getfield 210, 3) := by decide +kernel
theorem dX11_occurrence_158 : decode cX11_occurrence 158 = .ok (.ireturn, 1) := by decide +kernel
theorem dX11_occurrence_159 : decode cX11_occurrence 159 = .ok (.aload_n 0, 1) := by decide +kernel
theorem dX11_occurrence_160 : decode cX11_occurrence 160 = .ok (.iload_n 1, 1) := by decide +kernel
theorem dX11_occurrence_161 : decode cX11_occurrence 161 = .ok (.iload_n 2, 1) := by decide +kernel
theorem dX11_occurrence_162 : decode cX11_occurrence 162 = .ok (.invokevirtual 256, 3) := by decide +kernel
theorem dX11_occurrence_165 : decode cX11_occurrence 165 = .ok (.ifCond .eq 10, 3) := by decide +kernel
theorem dX11_occurrence_168 : decode cX11_occurrence 168 = .ok (.aload_n 0, 1) := by decide +kernel
theorem dX11_occurrence_169 : decode cX11_occurrence 169 = .ok (.getfield 213, 3) := by decide +kernel
theorem dX11_occurrence_172 : decode cX11_occurrence 172 = .ok (.goto 8, 3) := by decide +kernel
theorem dX11_occurrence_175 : decode cX11_occurrence 175 = .ok (.aload_n 0, 1) := by decide +kernel
theorem dX11_occurrence_176 : decode cX11_occurrence 176 = .ok (.iconst 3, 1) := by decide +kernel
theorem dX11_occurrence_177 : decode cX11_occurrence 177 = .ok (.invokevirtual 110, 3) := by decide +kernel
theorem dX11_occurrence_180 : decode cX11_occurrence 180 = .ok (.ireturn, 1) := by decide +kernel
theorem dX11_enters_0 : decode cX11_enters 0 = .ok (.aload_n 0, 1) := by decide +kernel
theorem dX11_enters_1 : decode cX11_enters 1 = .ok (.iload_n 1, 1) := by decide +kernel
theorem dX11_enters_2 : decode cX11_enters 2 = .ok (.invokevirtual 241, 3) := by decide +kernel
theorem dX11_enters_5 : decode cX11_enters 5 = .ok (.iconst 0, 1) := by decide +kernel
theorem dX11_enters_6 : decode cX11_enters 6 = .ok (.istore_n 3, 1) := by decide +kernel
theorem dX11_enters_7 : decode cX11_enters 7 = .ok (.iload_n 3, 1) := by decide +kernel
theorem dX11_enters_8 : decode cX11_enters 8 = .ok (.aload_n 0, 1) := by decide +kernel
theorem dX11_enters_9 : decode cX11_enters 9 = .ok (.getfield 244, 3) := by decide +kernel
theorem dX11_enters_12 : decode cX11_enters 12 = .ok (.if_icmp .ge 125, 3) := by decide +kernel
theorem dX11_enters_15 : decode cX11_enters 15 = .ok (.aload_n 0, 1) := by decide +kernel
theorem dX11_enters_16 : decode cX11_enters 16 = .ok (.iload_n 1, 1) := by decide +kernel
theorem dX11_enters_17 : decode cX11_enters 17 = .ok (.iload_n 3, 1) := by decide +kernel
theorem dX11_enters_18 : decode cX11_enters 18 = .ok (.invokevirtual 256, 3) := by decide +kernel
theorem dX11_enters_21 : decode cX11_enters 21 = .ok (.ifCond .eq 110, 3) := by decide +kernel
theorem dX11_enters_24 : decode cX11_enters 24 = .ok (.aload_n 0, 1) := by decide +kernel
theorem dX11_enters_25 : decode cX11_enters 25 = .ok (.getfield 213, 3) := by decide +kernel
theorem dX11_enters_28 : decode cX11_enters 28 = .ok (.iload_n 2, 1) := by decide +kernel
theorem dX11_enters_29 : decode cX11_enters 29 = .ok (.if_icmp .ge 6, 3) := by decide +kernel
theorem dX11_enters_32 : decode cX11_enters 32 = .ok (.goto 99, 3) := by decide +kernel
theorem dX11_enters_35 : decode cX11_enters 35 = .ok (.aload_n 0, 1) := by decide +kernel
theorem dX11_enters_36 : decode cX11_enters 36 = .ok (.dup, 1) := by decide +kernel
theorem dX11_enters_37 : decode cX11_enters 37 = .ok (.getfield 268, 3) := by decide +kernel
theorem dX11_enters_40 : decode cX11_enters 40 = .ok (.dup_x1, 1) := by decide +kernel
theorem dX11_enters_41 : decode cX11_enters 41 = .ok (.iconst 1, 1) := by decide +kernel
theorem dX11_enters_42 : decode cX11_enters 42 = .ok (.iadd, 1) := by decide +kernel
theorem dX11_enters_43 : decode cX11_enters 43 = .ok (.putfield 268, 3) := by decide +kernel
theorem dX11_enters_46 : decode cX11_enters 46 = .ok (.istore 4, 2) := by decide +kernel
theorem dX11_enters_48 : decode cX11_enters 48 = .ok (.iload 4, 2) := by decide +kernel
theorem dX11_enters_50 : decode cX11_enters 50 = .ok (.ifCond .le 57, 3) := by decide +kernel
theorem dX11_enters_53 : decode cX11_enters 53 = .ok (.aload_n 0, 1) := by decide +kernel
theorem dX11_enters_54 : decode cX11_enters 54 = .ok (.getfield 74, 3) := by decide +kernel
theorem dX11_enters_57 : decode cX11_enters 57 = .ok (.iload 4, 2) := by decide +kernel
theorem dX11_enters_59 : decode cX11_enters 59 = .ok (.iconst 1, 1) := by decide +kernel
theorem dX11_enters_60 : decode cX11_enters 60 = .ok (.isub, 1) := by decide +kernel
theorem dX11_enters_61 : decode cX11_enters 61 = .ok (.iaload, 1) := by decide +kernel
theorem dX11_enters_62 : decode cX11_enters 62 = .ok (.aload_n 0, 1) := by decide +kernel
theorem dX11_enters_63 : decode cX11_enters 63 = .ok (.getfield 213, 3) := by decide +kernel
theorem dX11_enters_66 : decode cX11_enters 66 = .ok (.if_icmp .le 41, 3) := by decide +kernel
theorem dX11_enters_69 : decode cX11_enters 69 = .ok (.aload_n 0, 1) := by decide +kernel
theorem dX11_enters_70 : decode cX11_enters 70 = .ok (.getfield 74, 3) := by decide +kernel
theorem dX11_enters_73 : decode cX11_enters 73 = .ok (.iload 4, 2) := by decide +kernel
theorem dX11_enters_75 : decode cX11_enters 75 = .ok (.aload_n 0, 1) := by decide +kernel
theorem dX11_enters_76 : decode cX11_enters 76 = .ok (.getfield 74, 3) := by decide +kernel
theorem dX11_enters_79 : decode cX11_enters 79 = .ok (.iload 4, 2) := by decide +kernel
theorem dX11_enters_81 : decode cX11_enters 81 = .ok (.iconst 1, 1) := by decide +kernel
theorem dX11_enters_82 : decode cX11_enters 82 = .ok (.isub, 1) := by decide +kernel
theorem dX11_enters_83 : decode cX11_enters 83 = .ok (.iaload, 1) := by decide +kernel
theorem dX11_enters_84 : decode cX11_enters 84 = .ok (.iastore, 1) := by decide +kernel
theorem dX11_enters_85 : decode cX11_enters 85 = .ok (.aload_n 0, 1) := by decide +kernel
theorem dX11_enters_86 : decode cX11_enters 86 = .ok (.getfield 77, 3) := by decide +kernel
theorem dX11_enters_89 : decode cX11_enters 89 = .ok (.iload 4, 2) := by decide +kernel
theorem dX11_enters_91 : decode cX11_enters 91 = .ok (.aload_n 0, 1) := by decide +kernel
theorem dX11_enters_92 : decode cX11_enters 92 = .ok (.getfield 77, 3) := by decide +kernel
theorem dX11_enters_95 : decode cX11_enters 95 = .ok (.iload 4, 2) := by decide +kernel
theorem dX11_enters_97 : decode cX11_enters 97 = .ok (.iconst 1, 1) := by decide +kernel
theorem dX11_enters_98 : decode cX11_enters 98 = .ok (.isub, 1) := by decide +kernel
theorem dX11_enters_99 : decode cX11_enters 99 = .ok (.iaload, 1) := by decide +kernel
theorem dX11_enters_100 : decode cX11_enters 100 = .ok (.iastore, 1) := by decide +kernel
theorem dX11_enters_101 : decode cX11_enters 101 = .ok (.iinc 4 (-1), 3) := by decide +kernel
theorem dX11_enters_104 : decode cX11_enters 104 = .ok (.goto (-56), 3) := by decide +kernel
theorem dX11_enters_107 : decode cX11_enters 107 = .ok (.aload_n 0, 1) := by decide +kernel
theorem dX11_enters_108 : decode cX11_enters 108 = .ok (.getfield 74, 3) := by decide +kernel
theorem dX11_enters_111 : decode cX11_enters 111 = .ok (.iload 4, 2) := by decide +kernel
theorem dX11_enters_113 : decode cX11_enters 113 = .ok (.aload_n 0, 1) := by decide +kernel
theorem dX11_enters_114 : decode cX11_enters 114 = .ok (.getfield 213, 3) := by decide +kernel
theorem dX11_enters_117 : decode cX11_enters 117 = .ok (.iastore, 1) := by decide +kernel
theorem dX11_enters_118 : decode cX11_enters 118 = .ok (.aload_n 0, 1) := by decide +kernel
theorem dX11_enters_119 : decode cX11_enters 119 = .ok (.getfield 77, 3) := by decide +kernel
theorem dX11_enters_122 : decode cX11_enters 122 = .ok (.iload 4, 2) := by decide +kernel
theorem dX11_enters_124 : decode cX11_enters 124 = .ok (.bipush 100, 2) := by decide +kernel
theorem dX11_enters_126 : decode cX11_enters 126 = .ok (.iload_n 1, 1) := by decide +kernel
theorem dX11_enters_127 : decode cX11_enters 127 = .ok (.imul, 1) := by decide +kernel
theorem dX11_enters_128 : decode cX11_enters 128 = .ok (.iload_n 3, 1) := by decide +kernel
theorem dX11_enters_129 : decode cX11_enters 129 = .ok (.iadd, 1) := by decide +kernel
theorem dX11_enters_130 : decode cX11_enters 130 = .ok (.iastore, 1) := by decide +kernel
theorem dX11_enters_131 : decode cX11_enters 131 = .ok (.iinc 3 1, 3) := by decide +kernel
theorem dX11_enters_134 : decode cX11_enters 134 = .ok (.goto (-127), 3) := by decide +kernel
theorem dX11_enters_137 : decode cX11_enters 137 = .ok (.return_, 1) := by decide +kernel
theorem dX11_next_0 : decode cX11_next 0 = .ok (.aload_n 0, 1) := by decide +kernel
theorem dX11_next_1 : decode cX11_next 1 = .ok (.iconst 0, 1) := by decide +kernel
theorem dX11_next_2 : decode cX11_next 2 = .ok (.putfield 80, 3) := by decide +kernel
theorem dX11_next_5 : decode cX11_next 5 = .ok (.aload_n 0, 1) := by decide +kernel
theorem dX11_next_6 : decode cX11_next 6 = .ok (.iload_n 1, 1) := by decide +kernel
theorem dX11_next_7 : decode cX11_next 7 = .ok (.invokevirtual 238, 3) := by decide +kernel
theorem dX11_next_10 : decode cX11_next 10 = .ok (.ifCond .ne 9, 3) := by decide +kernel
theorem dX11_next_13 : decode cX11_next 13 = .ok (.aload_n 0, 1) := by decide +kernel
theorem dX11_next_14 : decode cX11_next 14 = .ok (.iconst 1, 1) := by decide +kernel
theorem dX11_next_15 : decode cX11_next 15 = .ok (.invokevirtual 110, 3) := by decide +kernel
theorem dX11_next_18 : decode cX11_next 18 = .ok (.ireturn, 1) := by decide +kernel
theorem dX11_next_19 : decode cX11_next 19 = .ok (.iload_n 2, 1) := by decide +kernel
theorem dX11_next_20 : decode cX11_next 20 = .ok (.invokestatic 203, 3) := by decide +kernel
theorem dX11_next_23 : decode cX11_next 23 = .ok (.ifCond .ne 9, 3) := by decide +kernel
theorem dX11_next_26 : decode cX11_next 26 = .ok (.aload_n 0, 1) := by decide +kernel
theorem dX11_next_27 : decode cX11_next 27 = .ok (.iconst 2, 1) := by decide +kernel
theorem dX11_next_28 : decode cX11_next 28 = .ok (.invokevirtual 110, 3) := by decide +kernel
theorem dX11_next_31 : decode cX11_next 31 = .ok (.ireturn, 1) := by decide +kernel
theorem dX11_next_32 : decode cX11_next 32 = .ok (.aload_n 0, 1) := by decide +kernel
theorem dX11_next_33 : decode cX11_next 33 = .ok (.iconst 0, 1) := by decide +kernel
theorem dX11_next_34 : decode cX11_next 34 = .ok (.putfield 268, 3) := by decide +kernel
theorem dX11_next_37 : decode cX11_next 37 = .ok (.aload_n 0, 1) := by decide +kernel
theorem dX11_next_38 : decode cX11_next 38 = .ok (.iload_n 1, 1) := by decide +kernel
theorem dX11_next_39 : decode cX11_next 39 = .ok (.iload_n 2, 1) := by decide +kernel
theorem dX11_next_40 : decode cX11_next 40 = .ok (.invokevirtual 271, 3) := by decide +kernel
theorem dX11_next_43 : decode cX11_next 43 = .ok (.aload_n 0, 1) := by decide +kernel
theorem dX11_next_44 : decode cX11_next 44 = .ok (.getfield 268, 3) := by decide +kernel
theorem dX11_next_47 : decode cX11_next 47 = .ok (.ifCond .ne 11, 3) := by decide +kernel
theorem dX11_next_50 : decode cX11_next 50 = .ok (.aload_n 0, 1) := by decide +kernel
theorem dX11_next_51 : decode cX11_next 51 = .ok (.iconst 3, 1) := by decide +kernel
theorem dX11_next_52 : decode cX11_next 52 = .ok (.invokevirtual 110, 3) := by decide +kernel
theorem dX11_next_55 : decode cX11_next 55 = .ok (.goto 12, 3) := by decide +kernel
theorem dX11_next_58 : decode cX11_next 58 = .ok (.aload_n 0, 1) := by decide +kernel
theorem dX11_next_59 : decode cX11_next 59 = .ok (.getfield 77, 3) := by decide +kernel
theorem dX11_next_62 : decode cX11_next 62 = .ok (.iconst 0, 1) := by decide +kernel
theorem dX11_next_63 : decode cX11_next 63 = .ok (.iaload, 1) := by decide +kernel
theorem dX11_next_64 : decode cX11_next 64 = .ok (.bipush 100, 2) := by decide +kernel
theorem dX11_next_66 : decode cX11_next 66 = .ok (.irem, 1) := by decide +kernel
theorem dX11_next_67 : decode cX11_next 67 = .ok (.ireturn, 1) := by decide +kernel
theorem dX11_entersAll_0 : decode cX11_entersAll 0 = .ok (.aload_n 0, 1) := by decide +kernel
theorem dX11_entersAll_1 : decode cX11_entersAll 1 = .ok (.iconst 0, 1) := by decide +kernel
theorem dX11_entersAll_2 : decode cX11_entersAll 2 = .ok (.putfield 268, 3) := by decide +kernel
theorem dX11_entersAll_5 : decode cX11_entersAll 5 = .ok (.iconst 0, 1) := by decide +kernel
theorem dX11_entersAll_6 : decode cX11_entersAll 6 = .ok (.istore_n 2, 1) := by decide +kernel
theorem dX11_entersAll_7 : decode cX11_entersAll 7 = .ok (.iload_n 2, 1) := by decide +kernel
theorem dX11_entersAll_8 : decode cX11_entersAll 8 = .ok (.aload_n 0, 1) := by decide +kernel
theorem dX11_entersAll_9 : decode cX11_entersAll 9 = .ok (.getfield 9, 3) := by decide +kernel
theorem dX11_entersAll_12 : decode cX11_entersAll 12 = .ok (.iconst 1, 1) := by decide +kernel
theorem dX11_entersAll_13 : decode cX11_entersAll 13 = .ok (.iaload, 1) := by decide +kernel
theorem dX11_entersAll_14 : decode cX11_entersAll 14 = .ok (.if_icmp .ge 15, 3) := by decide +kernel
theorem dX11_entersAll_17 : decode cX11_entersAll 17 = .ok (.aload_n 0, 1) := by decide +kernel
theorem dX11_entersAll_18 : decode cX11_entersAll 18 = .ok (.iload_n 2, 1) := by decide +kernel
theorem dX11_entersAll_19 : decode cX11_entersAll 19 = .ok (.iload_n 1, 1) := by decide +kernel
theorem dX11_entersAll_20 : decode cX11_entersAll 20 = .ok (.invokevirtual 271, 3) := by decide +kernel
theorem dX11_entersAll_23 : decode cX11_entersAll 23 = .ok (.iinc 2 1, 3) := by decide +kernel
theorem dX11_entersAll_26 : decode cX11_entersAll 26 = .ok (.goto (-19), 3) := by decide +kernel
theorem dX11_entersAll_29 : decode cX11_entersAll 29 = .ok (.return_, 1) := by decide +kernel
theorem dX11_durationOf_0 : decode cX11_durationOf 0 = .ok (.aload_n 0, 1) := by decide +kernel
theorem dX11_durationOf_1 : decode cX11_durationOf 1 = .ok (.getfield 9, 3) := by decide +kernel
theorem dX11_durationOf_4 : decode cX11_durationOf 4 = .ok (.iload_n 1, 1) := by decide +kernel
theorem dX11_durationOf_5 : decode cX11_durationOf 5 = .ok (.bipush 100, 2) := by decide +kernel
theorem dX11_durationOf_7 : decode cX11_durationOf 7 = .ok (.idiv, 1) := by decide +kernel
theorem dX11_durationOf_8 : decode cX11_durationOf 8 = .ok (.invokestatic 145, 3) := by decide +kernel
theorem dX11_durationOf_11 : decode cX11_durationOf 11 = .ok (.iconst 3, 1) := by decide +kernel
theorem dX11_durationOf_12 : decode cX11_durationOf 12 = .ok (.iadd, 1) := by decide +kernel
theorem dX11_durationOf_13 : decode cX11_durationOf 13 = .ok (.iaload, 1) := by decide +kernel
theorem dX11_durationOf_14 : decode cX11_durationOf 14 = .ok (.ireturn, 1) := by decide +kernel
theorem dX11_clash_0 : decode cX11_clash 0 = .ok (.aload_n 0, 1) := by decide +kernel
theorem dX11_clash_1 : decode cX11_clash 1 = .ok (.iconst 0, 1) := by decide +kernel
theorem dX11_clash_2 : decode cX11_clash 2 = .ok (.putfield 80, 3) := by decide +kernel
theorem dX11_clash_5 : decode cX11_clash 5 = .ok (.aload_n 0, 1) := by decide +kernel
theorem dX11_clash_6 : decode cX11_clash 6 = .ok (.iload_n 1, 1) := by decide +kernel
theorem dX11_clash_7 : decode cX11_clash 7 = .ok (.invokevirtual 238, 3) := by decide +kernel
theorem dX11_clash_10 : decode cX11_clash 10 = .ok (.ifCond .eq 11, 3) := by decide +kernel
theorem dX11_clash_13 : decode cX11_clash 13 = .ok (.aload_n 0, 1) := by decide +kernel
theorem dX11_clash_14 : decode cX11_clash 14 = .ok (.iload_n 2, 1) := by decide +kernel
theorem dX11_clash_15 : decode cX11_clash 15 = .ok (.invokevirtual 238, 3) := by decide +kernel
theorem dX11_clash_18 : decode cX11_clash 18 = .ok (.ifCond .ne 9, 3) := by decide +kernel
theorem dX11_clash_21 : decode cX11_clash 21 = .ok (.aload_n 0, 1) := by decide +kernel
theorem dX11_clash_22 : decode cX11_clash 22 = .ok (.iconst 1, 1) := by decide +kernel
theorem dX11_clash_23 : decode cX11_clash 23 = .ok (.invokevirtual 110, 3) := by decide +kernel
theorem dX11_clash_26 : decode cX11_clash 26 = .ok (.ireturn, 1) := by decide +kernel
theorem dX11_clash_27 : decode cX11_clash 27 = .ok (.aload_n 0, 1) := by decide +kernel
theorem dX11_clash_28 : decode cX11_clash 28 = .ok (.iconst 0, 1) := by decide +kernel
theorem dX11_clash_29 : decode cX11_clash 29 = .ok (.putfield 268, 3) := by decide +kernel
theorem dX11_clash_32 : decode cX11_clash 32 = .ok (.aload_n 0, 1) := by decide +kernel
theorem dX11_clash_33 : decode cX11_clash 33 = .ok (.iload_n 1, 1) := by decide +kernel
theorem dX11_clash_34 : decode cX11_clash 34 = .ok (.sipush (-2000), 3) := by decide +kernel
theorem dX11_clash_37 : decode cX11_clash 37 = .ok (.invokevirtual 271, 3) := by decide +kernel
theorem dX11_clash_40 : decode cX11_clash 40 = .ok (.iload_n 1, 1) := by decide +kernel
theorem dX11_clash_41 : decode cX11_clash 41 = .ok (.iload_n 2, 1) := by decide +kernel
theorem dX11_clash_42 : decode cX11_clash 42 = .ok (.if_icmp .eq 11, 3) := by decide +kernel
theorem dX11_clash_45 : decode cX11_clash 45 = .ok (.aload_n 0, 1) := by decide +kernel
theorem dX11_clash_46 : decode cX11_clash 46 = .ok (.iload_n 2, 1) := by decide +kernel
theorem dX11_clash_47 : decode cX11_clash 47 = .ok (.sipush (-2000), 3) := by decide +kernel
theorem dX11_clash_50 : decode cX11_clash 50 = .ok (.invokevirtual 271, 3) := by decide +kernel
theorem dX11_clash_53 : decode cX11_clash 53 = .ok (.iconst (-1), 1) := by decide +kernel
theorem dX11_clash_54 : decode cX11_clash 54 = .ok (.istore_n 3, 1) := by decide +kernel
theorem dX11_clash_55 : decode cX11_clash 55 = .ok (.iconst 0, 1) := by decide +kernel
theorem dX11_clash_56 : decode cX11_clash 56 = .ok (.istore 4, 2) := by decide +kernel
theorem dX11_clash_58 : decode cX11_clash 58 = .ok (.iload 4, 2) := by decide +kernel
theorem dX11_clash_60 : decode cX11_clash 60 = .ok (.aload_n 0, 1) := by decide +kernel
theorem dX11_clash_61 : decode cX11_clash 61 = .ok (.getfield 268, 3) := by decide +kernel
theorem dX11_clash_64 : decode cX11_clash 64 = .ok (.if_icmp .ge 180, 3) := by decide +kernel
theorem dX11_clash_67 : decode cX11_clash 67 = .ok (.iconst 0, 1) := by decide +kernel
theorem dX11_clash_68 : decode cX11_clash 68 = .ok (.istore 5, 2) := by decide +kernel
theorem dX11_clash_70 : decode cX11_clash 70 = .ok (.iload 5, 2) := by decide +kernel
theorem dX11_clash_72 : decode cX11_clash 72 = .ok (.aload_n 0, 1) := by decide +kernel
theorem dX11_clash_73 : decode cX11_clash 73 = .ok (.getfield 268, 3) := by decide +kernel
theorem dX11_clash_76 : decode cX11_clash 76 = .ok (.if_icmp .ge 162, 3) := by decide +kernel
theorem dX11_clash_79 : decode cX11_clash 79 = .ok (.aload_n 0, 1) := by decide +kernel
theorem dX11_clash_80 : decode cX11_clash 80 = .ok (.getfield 77, 3) := by decide +kernel
theorem dX11_clash_83 : decode cX11_clash 83 = .ok (.iload 4, 2) := by decide +kernel
theorem dX11_clash_85 : decode cX11_clash 85 = .ok (.iaload, 1) := by decide +kernel
theorem dX11_clash_86 : decode cX11_clash 86 = .ok (.bipush 100, 2) := by decide +kernel
theorem dX11_clash_88 : decode cX11_clash 88 = .ok (.idiv, 1) := by decide +kernel
theorem dX11_clash_89 : decode cX11_clash 89 = .ok (.iload_n 1, 1) := by decide +kernel
theorem dX11_clash_90 : decode cX11_clash 90 = .ok (.if_icmp .ne 142, 3) := by decide +kernel
theorem dX11_clash_93 : decode cX11_clash 93 = .ok (.aload_n 0, 1) := by decide +kernel
theorem dX11_clash_94 : decode cX11_clash 94 = .ok (.getfield 77, 3) := by decide +kernel
theorem dX11_clash_97 : decode cX11_clash 97 = .ok (.iload 5, 2) := by decide +kernel
theorem dX11_clash_99 : decode cX11_clash 99 = .ok (.iaload, 1) := by decide +kernel
theorem dX11_clash_100 : decode cX11_clash 100 = .ok (.bipush 100, 2) := by decide +kernel
theorem dX11_clash_102 : decode cX11_clash 102 = .ok (.idiv, 1) := by decide +kernel
theorem dX11_clash_103 : decode cX11_clash 103 = .ok (.iload_n 2, 1) := by decide +kernel
theorem dX11_clash_104 : decode cX11_clash 104 = .ok (.if_icmp .ne 128, 3) := by decide +kernel
theorem dX11_clash_107 : decode cX11_clash 107 = .ok (.iload_n 1, 1) := by decide +kernel
theorem dX11_clash_108 : decode cX11_clash 108 = .ok (.iload_n 2, 1) := by decide +kernel
theorem dX11_clash_109 : decode cX11_clash 109 = .ok (.if_icmp .ne 23, 3) := by decide +kernel
theorem dX11_clash_112 : decode cX11_clash 112 = .ok (.aload_n 0, 1) := by decide +kernel
theorem dX11_clash_113 : decode cX11_clash 113 = .ok (.getfield 77, 3) := by decide +kernel
theorem dX11_clash_116 : decode cX11_clash 116 = .ok (.iload 4, 2) := by decide +kernel
theorem dX11_clash_118 : decode cX11_clash 118 = .ok (.iaload, 1) := by decide +kernel
theorem dX11_clash_119 : decode cX11_clash 119 = .ok (.aload_n 0, 1) := by decide +kernel
theorem dX11_clash_120 : decode cX11_clash 120 = .ok (.getfield 77, 3) := by decide +kernel
theorem dX11_clash_123 : decode cX11_clash 123 = .ok (.iload 5, 2) := by decide +kernel
theorem dX11_clash_125 : decode cX11_clash 125 = .ok (.iaload, 1) := by decide +kernel
theorem dX11_clash_126 : decode cX11_clash 126 = .ok (.if_icmp .lt 6, 3) := by decide +kernel
theorem dX11_clash_129 : decode cX11_clash 129 = .ok (.goto 103, 3) := by decide +kernel
theorem dX11_clash_132 : decode cX11_clash 132 = .ok (.aload_n 0, 1) := by decide +kernel
theorem dX11_clash_133 : decode cX11_clash 133 = .ok (.getfield 74, 3) := by decide +kernel
theorem dX11_clash_136 : decode cX11_clash 136 = .ok (.iload 4, 2) := by decide +kernel
theorem dX11_clash_138 : decode cX11_clash 138 = .ok (.iaload, 1) := by decide +kernel
theorem dX11_clash_139 : decode cX11_clash 139 = .ok (.aload_n 0, 1) := by decide +kernel
theorem dX11_clash_140 : decode cX11_clash 140 = .ok (.getfield 74, 3) := by decide +kernel
theorem dX11_clash_143 : decode cX11_clash 143 = .ok (.iload 5, 2) := by decide +kernel
theorem dX11_clash_145 : decode cX11_clash 145 = .ok (.iaload, 1) := by decide +kernel
theorem dX11_clash_146 : decode cX11_clash 146 = .ok (.aload_n 0, 1) := by decide +kernel
theorem dX11_clash_147 : decode cX11_clash 147 = .ok (.aload_n 0, 1) := by decide +kernel
theorem dX11_clash_148 : decode cX11_clash 148 = .ok (.getfield 77, 3) := by decide +kernel
theorem dX11_clash_151 : decode cX11_clash 151 = .ok (.iload 5, 2) := by decide +kernel
theorem dX11_clash_153 : decode cX11_clash 153 = .ok (.iaload, 1) := by decide +kernel
theorem dX11_clash_154 : decode cX11_clash 154 = .ok (.invokevirtual 274, 3) := by decide +kernel
theorem dX11_clash_157 : decode cX11_clash 157 = .ok (.iadd, 1) := by decide +kernel
theorem dX11_clash_158 : decode cX11_clash 158 = .ok (.if_icmp .ge 74, 3) := by decide +kernel
theorem dX11_clash_161 : decode cX11_clash 161 = .ok (.aload_n 0, 1) := by decide +kernel
theorem dX11_clash_162 : decode cX11_clash 162 = .ok (.getfield 74, 3) := by decide +kernel
theorem dX11_clash_165 : decode cX11_clash 165 = .ok (.iload 5, 2) := by decide +kernel
theorem dX11_clash_167 : decode cX11_clash 167 = .ok (.iaload, 1) := by decide +kernel
theorem dX11_clash_168 : decode cX11_clash 168 = .ok (.aload_n 0, 1) := by decide +kernel
theorem dX11_clash_169 : decode cX11_clash 169 = .ok (.getfield 74, 3) := by decide +kernel
theorem dX11_clash_172 : decode cX11_clash 172 = .ok (.iload 4, 2) := by decide +kernel
theorem dX11_clash_174 : decode cX11_clash 174 = .ok (.iaload, 1) := by decide +kernel
theorem dX11_clash_175 : decode cX11_clash 175 = .ok (.aload_n 0, 1) := by decide +kernel
theorem dX11_clash_176 : decode cX11_clash 176 = .ok (.aload_n 0, 1) := by decide +kernel
theorem dX11_clash_177 : decode cX11_clash 177 = .ok (.getfield 77, 3) := by decide +kernel
theorem dX11_clash_180 : decode cX11_clash 180 = .ok (.iload 4, 2) := by decide +kernel
theorem dX11_clash_182 : decode cX11_clash 182 = .ok (.iaload, 1) := by decide +kernel
theorem dX11_clash_183 : decode cX11_clash 183 = .ok (.invokevirtual 274, 3) := by decide +kernel
theorem dX11_clash_186 : decode cX11_clash 186 = .ok (.iadd, 1) := by decide +kernel
theorem dX11_clash_187 : decode cX11_clash 187 = .ok (.if_icmp .lt 6, 3) := by decide +kernel
theorem dX11_clash_190 : decode cX11_clash 190 = .ok (.goto 42, 3) := by decide +kernel
theorem dX11_clash_193 : decode cX11_clash 193 = .ok (.bipush 100, 2) := by decide +kernel
theorem dX11_clash_195 : decode cX11_clash 195 = .ok (.aload_n 0, 1) := by decide +kernel
theorem dX11_clash_196 : decode cX11_clash 196 = .ok (.getfield 77, 3) := by decide +kernel
theorem dX11_clash_199 : decode cX11_clash 199 = .ok (.iload 4, 2) := by decide +kernel
theorem dX11_clash_201 : decode cX11_clash 201 = .ok (.iaload, 1) := by decide +kernel
theorem dX11_clash_202 : decode cX11_clash 202 = .ok (.bipush 100, 2) := by decide +kernel
theorem dX11_clash_204 : decode cX11_clash 204 = .ok (.irem, 1) := by decide +kernel
theorem dX11_clash_205 : decode cX11_clash 205 = .ok (.imul, 1) := by decide +kernel
theorem dX11_clash_206 : decode cX11_clash 206 = .ok (.aload_n 0, 1) := by decide +kernel
theorem dX11_clash_207 : decode cX11_clash 207 = .ok (.getfield 77, 3) := by decide +kernel
theorem dX11_clash_210 : decode cX11_clash 210 = .ok (.iload 5, 2) := by decide +kernel
theorem dX11_clash_212 : decode cX11_clash 212 = .ok (.iaload, 1) := by decide +kernel
theorem dX11_clash_213 : decode cX11_clash 213 = .ok (.bipush 100, 2) := by decide +kernel
theorem dX11_clash_215 : decode cX11_clash 215 = .ok (.irem, 1) := by decide +kernel
theorem dX11_clash_216 : decode cX11_clash 216 = .ok (.iadd, 1) := by decide +kernel
theorem dX11_clash_217 : decode cX11_clash 217 = .ok (.istore 6, 2) := by decide +kernel
theorem dX11_clash_219 : decode cX11_clash 219 = .ok (.iload_n 3, 1) := by decide +kernel
theorem dX11_clash_220 : decode cX11_clash 220 = .ok (.ifCond .lt 9, 3) := by decide +kernel
theorem dX11_clash_223 : decode cX11_clash 223 = .ok (.iload 6, 2) := by decide +kernel
theorem dX11_clash_225 : decode cX11_clash 225 = .ok (.iload_n 3, 1) := by decide +kernel
theorem dX11_clash_226 : decode cX11_clash 226 = .ok (.if_icmp .ge 6, 3) := by decide +kernel
theorem dX11_clash_229 : decode cX11_clash 229 = .ok (.iload 6, 2) := by decide +kernel
theorem dX11_clash_231 : decode cX11_clash 231 = .ok (.istore_n 3, 1) := by decide +kernel
theorem dX11_clash_232 : decode cX11_clash 232 = .ok (.iinc 5 1, 3) := by decide +kernel
theorem dX11_clash_235 : decode cX11_clash 235 = .ok (.goto (-165), 3) := by decide +kernel
theorem dX11_clash_238 : decode cX11_clash 238 = .ok (.iinc 4 1, 3) := by decide +kernel
theorem dX11_clash_241 : decode cX11_clash 241 = .ok (.goto (-183), 3) := by decide +kernel
theorem dX11_clash_244 : decode cX11_clash 244 = .ok (.iload_n 3, 1) := by decide +kernel
theorem dX11_clash_245 : decode cX11_clash 245 = .ok (.ireturn, 1) := by decide +kernel
theorem dX11_agenda_0 : decode cX11_agenda 0 = .ok (.aload_n 0, 1) := by decide +kernel
theorem dX11_agenda_1 : decode cX11_agenda 1 = .ok (.iconst 0, 1) := by decide +kernel
theorem dX11_agenda_2 : decode cX11_agenda 2 = .ok (.putfield 80, 3) := by decide +kernel
theorem dX11_agenda_5 : decode cX11_agenda 5 = .ok (.iload_n 1, 1) := by decide +kernel
theorem dX11_agenda_6 : decode cX11_agenda 6 = .ok (.invokestatic 203, 3) := by decide +kernel
theorem dX11_agenda_9 : decode cX11_agenda 9 = .ok (.ifCond .ne 9, 3) := by decide +kernel
theorem dX11_agenda_12 : decode cX11_agenda 12 = .ok (.aload_n 0, 1) := by decide +kernel
theorem dX11_agenda_13 : decode cX11_agenda 13 = .ok (.iconst 1, 1) := by decide +kernel
theorem dX11_agenda_14 : decode cX11_agenda 14 = .ok (.invokevirtual 110, 3) := by decide +kernel
theorem dX11_agenda_17 : decode cX11_agenda 17 = .ok (.ireturn, 1) := by decide +kernel
theorem dX11_agenda_18 : decode cX11_agenda 18 = .ok (.aload_n 0, 1) := by decide +kernel
theorem dX11_agenda_19 : decode cX11_agenda 19 = .ok (.iload_n 1, 1) := by decide +kernel
theorem dX11_agenda_20 : decode cX11_agenda 20 = .ok (.invokevirtual 277, 3) := by decide +kernel
theorem dX11_agenda_23 : decode cX11_agenda 23 = .ok (.iload_n 2, 1) := by decide +kernel
theorem dX11_agenda_24 : decode cX11_agenda 24 = .ok (.iconst 0, 1) := by decide +kernel
theorem dX11_agenda_25 : decode cX11_agenda 25 = .ok (.aload_n 0, 1) := by decide +kernel
theorem dX11_agenda_26 : decode cX11_agenda 26 = .ok (.getfield 268, 3) := by decide +kernel
theorem dX11_agenda_29 : decode cX11_agenda 29 = .ok (.iconst 1, 1) := by decide +kernel
theorem dX11_agenda_30 : decode cX11_agenda 30 = .ok (.isub, 1) := by decide +kernel
theorem dX11_agenda_31 : decode cX11_agenda 31 = .ok (.invokestatic 106, 3) := by decide +kernel
theorem dX11_agenda_34 : decode cX11_agenda 34 = .ok (.ifCond .eq 12, 3) := by decide +kernel
theorem dX11_agenda_37 : decode cX11_agenda 37 = .ok (.aload_n 0, 1) := by decide +kernel
theorem dX11_agenda_38 : decode cX11_agenda 38 = .ok (.getfield 77, 3) := by decide +kernel
theorem dX11_agenda_41 : decode cX11_agenda 41 = .ok (.iload_n 2, 1) := by decide +kernel
theorem dX11_agenda_42 : decode cX11_agenda 42 = .ok (.iaload, 1) := by decide +kernel
theorem dX11_agenda_43 : decode cX11_agenda 43 = .ok (.goto 8, 3) := by decide +kernel
theorem dX11_agenda_46 : decode cX11_agenda 46 = .ok (.aload_n 0, 1) := by decide +kernel
theorem dX11_agenda_47 : decode cX11_agenda 47 = .ok (.iconst 2, 1) := by decide +kernel
theorem dX11_agenda_48 : decode cX11_agenda 48 = .ok (.invokevirtual 110, 3) := by decide +kernel
theorem dX11_agenda_51 : decode cX11_agenda 51 = .ok (.ireturn, 1) := by decide +kernel
theorem dX11_drift_0 : decode cX11_drift 0 = .ok (.aload_n 0, 1) := by decide +kernel
theorem dX11_drift_1 : decode cX11_drift 1 = .ok (.iconst 0, 1) := by decide +kernel
theorem dX11_drift_2 : decode cX11_drift 2 = .ok (.putfield 80, 3) := by decide +kernel
theorem dX11_drift_5 : decode cX11_drift 5 = .ok (.aload_n 0, 1) := by decide +kernel
theorem dX11_drift_6 : decode cX11_drift 6 = .ok (.iload_n 1, 1) := by decide +kernel
theorem dX11_drift_7 : decode cX11_drift 7 = .ok (.invokevirtual 238, 3) := by decide +kernel
theorem dX11_drift_10 : decode cX11_drift 10 = .ok (.ifCond .eq 11, 3) := by decide +kernel
theorem dX11_drift_13 : decode cX11_drift 13 = .ok (.aload_n 0, 1) := by decide +kernel
theorem dX11_drift_14 : decode cX11_drift 14 = .ok (.iload_n 2, 1) := by decide +kernel
theorem dX11_drift_15 : decode cX11_drift 15 = .ok (.invokevirtual 126, 3) := by decide +kernel
theorem dX11_drift_18 : decode cX11_drift 18 = .ok (.ifCond .ne 9, 3) := by decide +kernel
theorem dX11_drift_21 : decode cX11_drift 21 = .ok (.aload_n 0, 1) := by decide +kernel
theorem dX11_drift_22 : decode cX11_drift 22 = .ok (.iconst 1, 1) := by decide +kernel
theorem dX11_drift_23 : decode cX11_drift 23 = .ok (.invokevirtual 110, 3) := by decide +kernel
theorem dX11_drift_26 : decode cX11_drift 26 = .ok (.ireturn, 1) := by decide +kernel
theorem dX11_drift_27 : decode cX11_drift 27 = .ok (.aload_n 0, 1) := by decide +kernel
theorem dX11_drift_28 : decode cX11_drift 28 = .ok (.iconst 0, 1) := by decide +kernel
theorem dX11_drift_29 : decode cX11_drift 29 = .ok (.putfield 268, 3) := by decide +kernel
theorem dX11_drift_32 : decode cX11_drift 32 = .ok (.aload_n 0, 1) := by decide +kernel
theorem dX11_drift_33 : decode cX11_drift 33 = .ok (.iload_n 1, 1) := by decide +kernel
theorem dX11_drift_34 : decode cX11_drift 34 = .ok (.sipush (-2000), 3) := by decide +kernel
theorem dX11_drift_37 : decode cX11_drift 37 = .ok (.invokevirtual 271, 3) := by decide +kernel
theorem dX11_drift_40 : decode cX11_drift 40 = .ok (.iconst 0, 1) := by decide +kernel
theorem dX11_drift_41 : decode cX11_drift 41 = .ok (.istore_n 3, 1) := by decide +kernel
theorem dX11_drift_42 : decode cX11_drift 42 = .ok (.iconst 0, 1) := by decide +kernel
theorem dX11_drift_43 : decode cX11_drift 43 = .ok (.istore 4, 2) := by decide +kernel
theorem dX11_drift_45 : decode cX11_drift 45 = .ok (.iload 4, 2) := by decide +kernel
theorem dX11_drift_47 : decode cX11_drift 47 = .ok (.aload_n 0, 1) := by decide +kernel
theorem dX11_drift_48 : decode cX11_drift 48 = .ok (.getfield 268, 3) := by decide +kernel
theorem dX11_drift_51 : decode cX11_drift 51 = .ok (.if_icmp .ge 42, 3) := by decide +kernel
theorem dX11_drift_54 : decode cX11_drift 54 = .ok (.aload_n 0, 1) := by decide +kernel
theorem dX11_drift_55 : decode cX11_drift 55 = .ok (.getfield 77, 3) := by decide +kernel
theorem dX11_drift_58 : decode cX11_drift 58 = .ok (.iload 4, 2) := by decide +kernel
theorem dX11_drift_60 : decode cX11_drift 60 = .ok (.aload_n 0, 1) := by decide +kernel
theorem dX11_drift_61 : decode cX11_drift 61 = .ok (.getfield 74, 3) := by decide +kernel
theorem dX11_drift_64 : decode cX11_drift 64 = .ok (.iload 4, 2) := by decide +kernel
theorem dX11_drift_66 : decode cX11_drift 66 = .ok (.iaload, 1) := by decide +kernel
theorem dX11_drift_67 : decode cX11_drift 67 = .ok (.aload_n 0, 1) := by decide +kernel
theorem dX11_drift_68 : decode cX11_drift 68 = .ok (.iload_n 2, 1) := by decide +kernel
theorem dX11_drift_69 : decode cX11_drift 69 = .ok (.aload_n 0, 1) := by decide +kernel
theorem dX11_drift_70 : decode cX11_drift 70 = .ok (.getfield 74, 3) := by decide +kernel
theorem dX11_drift_73 : decode cX11_drift 73 = .ok (.iload 4, 2) := by decide +kernel
theorem dX11_drift_75 : decode cX11_drift 75 = .ok (.iaload, 1) := by decide +kernel
theorem dX11_drift_76 : decode cX11_drift 76 = .ok (.invokevirtual 206, 3) := by decide +kernel
theorem dX11_drift_79 : decode cX11_drift 79 = .ok (.iadd, 1) := by decide +kernel
theorem dX11_drift_80 : decode cX11_drift 80 = .ok (.sipush 1440, 3) := by decide +kernel
theorem dX11_drift_83 : decode cX11_drift 83 = .ok (.invokestatic 280, 3) := by decide +kernel
theorem dX11_drift_86 : decode cX11_drift 86 = .ok (.iastore, 1) := by decide +kernel
theorem dX11_drift_87 : decode cX11_drift 87 = .ok (.iinc 4 1, 3) := by decide +kernel
theorem dX11_drift_90 : decode cX11_drift 90 = .ok (.goto (-45), 3) := by decide +kernel
theorem dX11_drift_93 : decode cX11_drift 93 = .ok (.iconst 0, 1) := by decide +kernel
theorem dX11_drift_94 : decode cX11_drift 94 = .ok (.istore 4, 2) := by decide +kernel
theorem dX11_drift_96 : decode cX11_drift 96 = .ok (.iload 4, 2) := by decide +kernel
theorem dX11_drift_98 : decode cX11_drift 98 = .ok (.aload_n 0, 1) := by decide +kernel
theorem dX11_drift_99 : decode cX11_drift 99 = .ok (.getfield 268, 3) := by decide +kernel
theorem dX11_drift_102 : decode cX11_drift 102 = .ok (.if_icmp .ge 45, 3) := by decide +kernel
theorem dX11_drift_105 : decode cX11_drift 105 = .ok (.iconst 0, 1) := by decide +kernel
theorem dX11_drift_106 : decode cX11_drift 106 = .ok (.istore 5, 2) := by decide +kernel
theorem dX11_drift_108 : decode cX11_drift 108 = .ok (.aload_n 0, 1) := by decide +kernel
theorem dX11_drift_109 : decode cX11_drift 109 = .ok (.getfield 77, 3) := by decide +kernel
theorem dX11_drift_112 : decode cX11_drift 112 = .ok (.iload 5, 2) := by decide +kernel
theorem dX11_drift_114 : decode cX11_drift 114 = .ok (.iaload, 1) := by decide +kernel
theorem dX11_drift_115 : decode cX11_drift 115 = .ok (.aload_n 0, 1) := by decide +kernel
theorem dX11_drift_116 : decode cX11_drift 116 = .ok (.getfield 77, 3) := by decide +kernel
theorem dX11_drift_119 : decode cX11_drift 119 = .ok (.iload 4, 2) := by decide +kernel
theorem dX11_drift_121 : decode cX11_drift 121 = .ok (.iaload, 1) := by decide +kernel
theorem dX11_drift_122 : decode cX11_drift 122 = .ok (.if_icmp .eq 9, 3) := by decide +kernel
theorem dX11_drift_125 : decode cX11_drift 125 = .ok (.iinc 5 1, 3) := by decide +kernel
theorem dX11_drift_128 : decode cX11_drift 128 = .ok (.goto (-20), 3) := by decide +kernel
theorem dX11_drift_131 : decode cX11_drift 131 = .ok (.iload 5, 2) := by decide +kernel
theorem dX11_drift_133 : decode cX11_drift 133 = .ok (.iload 4, 2) := by decide +kernel
theorem dX11_drift_135 : decode cX11_drift 135 = .ok (.if_icmp .ne 6, 3) := by decide +kernel
theorem dX11_drift_138 : decode cX11_drift 138 = .ok (.iinc 3 1, 3) := by decide +kernel
theorem dX11_drift_141 : decode cX11_drift 141 = .ok (.iinc 4 1, 3) := by decide +kernel
theorem dX11_drift_144 : decode cX11_drift 144 = .ok (.goto (-48), 3) := by decide +kernel
theorem dX11_drift_147 : decode cX11_drift 147 = .ok (.iload_n 3, 1) := by decide +kernel
theorem dX11_drift_148 : decode cX11_drift 148 = .ok (.ireturn, 1) := by decide +kernel
theorem dX11_free_0 : decode cX11_free 0 = .ok (.aload_n 0, 1) := by decide +kernel
theorem dX11_free_1 : decode cX11_free 1 = .ok (.iconst 0, 1) := by decide +kernel
theorem dX11_free_2 : decode cX11_free 2 = .ok (.putfield 80, 3) := by decide +kernel
theorem dX11_free_5 : decode cX11_free 5 = .ok (.iload_n 1, 1) := by decide +kernel
theorem dX11_free_6 : decode cX11_free 6 = .ok (.invokestatic 203, 3) := by decide +kernel
theorem dX11_free_9 : decode cX11_free 9 = .ok (.ifCond .eq 21, 3) := by decide +kernel
theorem dX11_free_12 : decode cX11_free 12 = .ok (.iload_n 2, 1) := by decide +kernel
theorem dX11_free_13 : decode cX11_free 13 = .ok (.invokestatic 203, 3) := by decide +kernel
theorem dX11_free_16 : decode cX11_free 16 = .ok (.ifCond .eq 14, 3) := by decide +kernel
theorem dX11_free_19 : decode cX11_free 19 = .ok (.iload_n 3, 1) := by decide +kernel
theorem dX11_free_20 : decode cX11_free 20 = .ok (.iconst 1, 1) := by decide +kernel
theorem dX11_free_21 : decode cX11_free 21 = .ok (.sipush 1440, 3) := by decide +kernel
theorem dX11_free_24 : decode cX11_free 24 = .ok (.invokestatic 106, 3) := by decide +kernel
theorem dX11_free_27 : decode cX11_free 27 = .ok (.ifCond .ne 9, 3) := by decide +kernel
theorem dX11_free_30 : decode cX11_free 30 = .ok (.aload_n 0, 1) := by decide +kernel
theorem dX11_free_31 : decode cX11_free 31 = .ok (.iconst 1, 1) := by decide +kernel
theorem dX11_free_32 : decode cX11_free 32 = .ok (.invokevirtual 110, 3) := by decide +kernel
theorem dX11_free_35 : decode cX11_free 35 = .ok (.ireturn, 1) := by decide +kernel
theorem dX11_free_36 : decode cX11_free 36 = .ok (.aload_n 0, 1) := by decide +kernel
theorem dX11_free_37 : decode cX11_free 37 = .ok (.sipush (-2000), 3) := by decide +kernel
theorem dX11_free_40 : decode cX11_free 40 = .ok (.invokevirtual 277, 3) := by decide +kernel
theorem dX11_free_43 : decode cX11_free 43 = .ok (.iload_n 1, 1) := by decide +kernel
theorem dX11_free_44 : decode cX11_free 44 = .ok (.istore 4, 2) := by decide +kernel
theorem dX11_free_46 : decode cX11_free 46 = .ok (.iconst 1, 1) := by decide +kernel
theorem dX11_free_47 : decode cX11_free 47 = .ok (.istore 5, 2) := by decide +kernel
theorem dX11_free_49 : decode cX11_free 49 = .ok (.iload 5, 2) := by decide +kernel
theorem dX11_free_51 : decode cX11_free 51 = .ok (.ifCond .eq 79, 3) := by decide +kernel
theorem dX11_free_54 : decode cX11_free 54 = .ok (.iconst 0, 1) := by decide +kernel
theorem dX11_free_55 : decode cX11_free 55 = .ok (.istore 5, 2) := by decide +kernel
theorem dX11_free_57 : decode cX11_free 57 = .ok (.iconst 0, 1) := by decide +kernel
theorem dX11_free_58 : decode cX11_free 58 = .ok (.istore 6, 2) := by decide +kernel
theorem dX11_free_60 : decode cX11_free 60 = .ok (.iload 6, 2) := by decide +kernel
theorem dX11_free_62 : decode cX11_free 62 = .ok (.aload_n 0, 1) := by decide +kernel
theorem dX11_free_63 : decode cX11_free 63 = .ok (.getfield 268, 3) := by decide +kernel
theorem dX11_free_66 : decode cX11_free 66 = .ok (.if_icmp .ge 61, 3) := by decide +kernel
theorem dX11_free_69 : decode cX11_free 69 = .ok (.aload_n 0, 1) := by decide +kernel
theorem dX11_free_70 : decode cX11_free 70 = .ok (.getfield 74, 3) := by decide +kernel
theorem dX11_free_73 : decode cX11_free 73 = .ok (.iload 6, 2) := by decide +kernel
theorem dX11_free_75 : decode cX11_free 75 = .ok (.iaload, 1) := by decide +kernel
theorem dX11_free_76 : decode cX11_free 76 = .ok (.aload_n 0, 1) := by decide +kernel
theorem dX11_free_77 : decode cX11_free 77 = .ok (.aload_n 0, 1) := by decide +kernel
theorem dX11_free_78 : decode cX11_free 78 = .ok (.getfield 77, 3) := by decide +kernel
theorem dX11_free_81 : decode cX11_free 81 = .ok (.iload 6, 2) := by decide +kernel
theorem dX11_free_83 : decode cX11_free 83 = .ok (.iaload, 1) := by decide +kernel
theorem dX11_free_84 : decode cX11_free 84 = .ok (.invokevirtual 274, 3) := by decide +kernel
theorem dX11_free_87 : decode cX11_free 87 = .ok (.iadd, 1) := by decide +kernel
theorem dX11_free_88 : decode cX11_free 88 = .ok (.istore 7, 2) := by decide +kernel
theorem dX11_free_90 : decode cX11_free 90 = .ok (.aload_n 0, 1) := by decide +kernel
theorem dX11_free_91 : decode cX11_free 91 = .ok (.getfield 74, 3) := by decide +kernel
theorem dX11_free_94 : decode cX11_free 94 = .ok (.iload 6, 2) := by decide +kernel
theorem dX11_free_96 : decode cX11_free 96 = .ok (.iaload, 1) := by decide +kernel
theorem dX11_free_97 : decode cX11_free 97 = .ok (.iload 4, 2) := by decide +kernel
theorem dX11_free_99 : decode cX11_free 99 = .ok (.iload_n 3, 1) := by decide +kernel
theorem dX11_free_100 : decode cX11_free 100 = .ok (.iadd, 1) := by decide +kernel
theorem dX11_free_101 : decode cX11_free 101 = .ok (.if_icmp .ge 20, 3) := by decide +kernel
theorem dX11_free_104 : decode cX11_free 104 = .ok (.iload 7, 2) := by decide +kernel
theorem dX11_free_106 : decode cX11_free 106 = .ok (.iload 4, 2) := by decide +kernel
theorem dX11_free_108 : decode cX11_free 108 = .ok (.if_icmp .gt 6, 3) := by decide +kernel
theorem dX11_free_111 : decode cX11_free 111 = .ok (.goto 10, 3) := by decide +kernel
theorem dX11_free_114 : decode cX11_free 114 = .ok (.iload 7, 2) := by decide +kernel
theorem dX11_free_116 : decode cX11_free 116 = .ok (.istore 4, 2) := by decide +kernel
theorem dX11_free_118 : decode cX11_free 118 = .ok (.iconst 1, 1) := by decide +kernel
theorem dX11_free_119 : decode cX11_free 119 = .ok (.istore 5, 2) := by decide +kernel
theorem dX11_free_121 : decode cX11_free 121 = .ok (.iinc 6 1, 3) := by decide +kernel
theorem dX11_free_124 : decode cX11_free 124 = .ok (.goto (-64), 3) := by decide +kernel
theorem dX11_free_127 : decode cX11_free 127 = .ok (.goto (-78), 3) := by decide +kernel
theorem dX11_free_130 : decode cX11_free 130 = .ok (.iload 4, 2) := by decide +kernel
theorem dX11_free_132 : decode cX11_free 132 = .ok (.iload_n 3, 1) := by decide +kernel
theorem dX11_free_133 : decode cX11_free 133 = .ok (.iadd, 1) := by decide +kernel
theorem dX11_free_134 : decode cX11_free 134 = .ok (.iload_n 2, 1) := by decide +kernel
theorem dX11_free_135 : decode cX11_free 135 = .ok (.if_icmp .gt 8, 3) := by decide +kernel
theorem dX11_free_138 : decode cX11_free 138 = .ok (.iload 4, 2) := by decide +kernel
theorem dX11_free_140 : decode cX11_free 140 = .ok (.goto 8, 3) := by decide +kernel
theorem dX11_free_143 : decode cX11_free 143 = .ok (.aload_n 0, 1) := by decide +kernel
theorem dX11_free_144 : decode cX11_free 144 = .ok (.iconst 2, 1) := by decide +kernel
theorem dX11_free_145 : decode cX11_free 145 = .ok (.invokevirtual 110, 3) := by decide +kernel
theorem dX11_free_148 : decode cX11_free 148 = .ok (.ireturn, 1) := by decide +kernel
