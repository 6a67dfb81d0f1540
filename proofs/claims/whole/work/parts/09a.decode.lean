theorem dX11_compiles_98 : decode cX11_compiles 98 = .ok (.aload_n 0, 1) := by decide +kernel
theorem dX11_compiles_99 : decode cX11_compiles 99 = .ok (.sipush 1440, 3) := by decide +kernel
theorem dX11_compiles_102 : decode cX11_compiles 102 = .ok (.iload 6, 2) := by decide +kernel
theorem dX11_compiles_104 : decode cX11_compiles 104 = .ok (.imul, 1) := by decide +kernel
theorem dX11_compiles_105 : decode cX11_compiles 105 = .ok (.aload_n 0, 1) := by decide +kernel
theorem dX11_compiles_106 : decode cX11_compiles 106 = .ok (.getfield 9, 3) := by decide +kernel
theorem dX11_compiles_109 : decode cX11_compiles 109 = .ok (.iload 4, 2) := by decide +kernel
theorem dX11_compiles_111 : decode cX11_compiles 111 = .ok (.iconst 4, 1) := by decide +kernel
theorem dX11_compiles_112 : decode cX11_compiles 112 = .ok (.iadd, 1) := by decide +kernel
theorem dX11_compiles_113 : decode cX11_compiles 113 = .ok (.iaload, 1) := by decide +kernel
theorem dX11_compiles_114 : decode cX11_compiles 114 = .ok (.iadd, 1) := by decide +kernel
theorem dX11_compiles_115 : decode cX11_compiles 115 = .ok (.iload_n 3, 1) := by decide +kernel
theorem dX11_compiles_116 : decode cX11_compiles 116 = .ok (.invokevirtual 177, 3) := by decide +kernel
theorem dX11_compiles_119 : decode cX11_compiles 119 = .ok (.iinc 5 1, 3) := by decide +kernel
theorem dX11_compiles_122 : decode cX11_compiles 122 = .ok (.goto (-68), 3) := by decide +kernel
theorem dX11_compiles_125 : decode cX11_compiles 125 = .ok (.iinc 3 1, 3) := by decide +kernel
theorem dX11_compiles_128 : decode cX11_compiles 128 = .ok (.goto (-102), 3) := by decide +kernel
theorem dX11_compiles_131 : decode cX11_compiles 131 = .ok (.iconst 0, 1) := by decide +kernel
theorem dX11_compiles_132 : decode cX11_compiles 132 = .ok (.istore_n 3, 1) := by decide +kernel
theorem dX11_compiles_133 : decode cX11_compiles 133 = .ok (.iload_n 3, 1) := by decide +kernel
theorem dX11_compiles_134 : decode cX11_compiles 134 = .ok (.aload_n 0, 1) := by decide +kernel
theorem dX11_compiles_135 : decode cX11_compiles 135 = .ok (.getfield 9, 3) := by decide +kernel
theorem dX11_compiles_138 : decode cX11_compiles 138 = .ok (.iload_n 2, 1) := by decide +kernel
theorem dX11_compiles_139 : decode cX11_compiles 139 = .ok (.iconst 2, 1) := by decide +kernel
theorem dX11_compiles_140 : decode cX11_compiles 140 = .ok (.iadd, 1) := by decide +kernel
theorem dX11_compiles_141 : decode cX11_compiles 141 = .ok (.iaload, 1) := by decide +kernel
theorem dX11_compiles_142 : decode cX11_compiles 142 = .ok (.if_icmp .ge 34, 3) := by decide +kernel
theorem dX11_compiles_145 : decode cX11_compiles 145 = .ok (.aload_n 0, 1) := by decide +kernel
theorem dX11_compiles_146 : decode cX11_compiles 146 = .ok (.sipush 1440, 3) := by decide +kernel
theorem dX11_compiles_149 : decode cX11_compiles 149 = .ok (.aload_n 0, 1) := by decide +kernel
theorem dX11_compiles_150 : decode cX11_compiles 150 = .ok (.getfield 9, 3) := by decide +kernel
theorem dX11_compiles_153 : decode cX11_compiles 153 = .ok (.iload_n 2, 1) := by decide +kernel
theorem dX11_compiles_154 : decode cX11_compiles 154 = .ok (.bipush 59, 2) := by decide +kernel
theorem dX11_compiles_156 : decode cX11_compiles 156 = .ok (.iadd, 1) := by decide +kernel
theorem dX11_compiles_157 : decode cX11_compiles 157 = .ok (.iconst 2, 1) := by decide +kernel
theorem dX11_compiles_158 : decode cX11_compiles 158 = .ok (.iload_n 3, 1) := by decide +kernel
theorem dX11_compiles_159 : decode cX11_compiles 159 = .ok (.imul, 1) := by decide +kernel
theorem dX11_compiles_160 : decode cX11_compiles 160 = .ok (.iadd, 1) := by decide +kernel
theorem dX11_compiles_161 : decode cX11_compiles 161 = .ok (.iaload, 1) := by decide +kernel
theorem dX11_compiles_162 : decode cX11_compiles 162 = .ok (.imul, 1) := by decide +kernel
theorem dX11_compiles_163 : decode cX11_compiles 163 = .ok (.bipush 100, 2) := by decide +kernel
theorem dX11_compiles_165 : decode cX11_compiles 165 = .ok (.iload_n 3, 1) := by decide +kernel
theorem dX11_compiles_166 : decode cX11_compiles 166 = .ok (.iadd, 1) := by decide +kernel
theorem dX11_compiles_167 : decode cX11_compiles 167 = .ok (.invokevirtual 177, 3) := by decide +kernel
theorem dX11_compiles_170 : decode cX11_compiles 170 = .ok (.iinc 3 1, 3) := by decide +kernel
theorem dX11_compiles_173 : decode cX11_compiles 173 = .ok (.goto (-40), 3) := by decide +kernel
theorem dX11_compiles_176 : decode cX11_compiles 176 = .ok (.aload_n 0, 1) := by decide +kernel
theorem dX11_compiles_177 : decode cX11_compiles 177 = .ok (.iconst 0, 1) := by decide +kernel
theorem dX11_compiles_178 : decode cX11_compiles 178 = .ok (.putfield 181, 3) := by decide +kernel
theorem dX11_compiles_181 : decode cX11_compiles 181 = .ok (.aload_n 0, 1) := by decide +kernel
theorem dX11_compiles_182 : decode cX11_compiles 182 = .ok (.iconst 0, 1) := by decide +kernel
theorem dX11_compiles_183 : decode cX11_compiles 183 = .ok (.putfield 184, 3) := by decide +kernel
theorem dX11_compiles_186 : decode cX11_compiles 186 = .ok (.aload_n 0, 1) := by decide +kernel
theorem dX11_compiles_187 : decode cX11_compiles 187 = .ok (.getfield 9, 3) := by decide +kernel
theorem dX11_compiles_190 : decode cX11_compiles 190 = .ok (.iload_n 2, 1) := by decide +kernel
theorem dX11_compiles_191 : decode cX11_compiles 191 = .ok (.iaload, 1) := by decide +kernel
theorem dX11_compiles_192 : decode cX11_compiles 192 = .ok (.istore_n 3, 1) := by decide +kernel
theorem dX11_compiles_193 : decode cX11_compiles 193 = .ok (.iconst 0, 1) := by decide +kernel
theorem dX11_compiles_194 : decode cX11_compiles 194 = .ok (.istore 4, 2) := by decide +kernel
theorem dX11_compiles_196 : decode cX11_compiles 196 = .ok (.iconst 0, 1) := by decide +kernel
theorem dX11_compiles_197 : decode cX11_compiles 197 = .ok (.istore 5, 2) := by decide +kernel
theorem dX11_compiles_199 : decode cX11_compiles 199 = .ok (.iload 5, 2) := by decide +kernel
theorem dX11_compiles_201 : decode cX11_compiles 201 = .ok (.aload_n 0, 1) := by decide +kernel
theorem dX11_compiles_202 : decode cX11_compiles 202 = .ok (.getfield 168, 3) := by decide +kernel
theorem dX11_compiles_205 : decode cX11_compiles 205 = .ok (.if_icmp .ge 276, 3) := by decide +kernel
theorem dX11_compiles_208 : decode cX11_compiles 208 = .ok (.aload_n 0, 1) := by decide +kernel
theorem dX11_compiles_209 : decode cX11_compiles 209 = .ok (.getfield 41, 3) := by decide +kernel
theorem dX11_compiles_212 : decode cX11_compiles 212 = .ok (.iload 5, 2) := by decide +kernel
theorem dX11_compiles_214 : decode cX11_compiles 214 = .ok (.iaload, 1) := by decide +kernel
theorem dX11_compiles_215 : decode cX11_compiles 215 = .ok (.istore 6, 2) := by decide +kernel
theorem dX11_compiles_217 : decode cX11_compiles 217 = .ok (.iload 6, 2) := by decide +kernel
theorem dX11_compiles_219 : decode cX11_compiles 219 = .ok (.bipush 100, 2) := by decide +kernel
theorem dX11_compiles_221 : decode cX11_compiles 221 = .ok (.if_icmp .lt 7, 3) := by decide +kernel
theorem dX11_compiles_224 : decode cX11_compiles 224 = .ok (.iconst 0, 1) := by decide +kernel
theorem dX11_compiles_225 : decode cX11_compiles 225 = .ok (.goto 16, 3) := by decide +kernel
theorem dX11_compiles_228 : decode cX11_compiles 228 = .ok (.aload_n 0, 1) := by decide +kernel
theorem dX11_compiles_229 : decode cX11_compiles 229 = .ok (.getfield 9, 3) := by decide +kernel
theorem dX11_compiles_232 : decode cX11_compiles 232 = .ok (.iload_n 1, 1) := by decide +kernel
theorem dX11_compiles_233 : decode cX11_compiles 233 = .ok (.iload 6, 2) := by decide +kernel
theorem dX11_compiles_235 : decode cX11_compiles 235 = .ok (.invokestatic 135, 3) := by decide +kernel
theorem dX11_compiles_238 : decode cX11_compiles 238 = .ok (.iconst 5, 1) := by decide +kernel
theorem dX11_compiles_239 : decode cX11_compiles 239 = .ok (.iadd, 1) := by decide +kernel
theorem dX11_compiles_240 : decode cX11_compiles 240 = .ok (.iaload, 1) := by decide +kernel
theorem dX11_compiles_241 : decode cX11_compiles 241 = .ok (.istore 7, 2) := by decide +kernel
theorem dX11_compiles_243 : decode cX11_compiles 243 = .ok (.aload_n 0, 1) := by decide +kernel
theorem dX11_compiles_244 : decode cX11_compiles 244 = .ok (.getfield 38, 3) := by decide +kernel
theorem dX11_compiles_247 : decode cX11_compiles 247 = .ok (.iload 5, 2) := by decide +kernel
theorem dX11_compiles_249 : decode cX11_compiles 249 = .ok (.iaload, 1) := by decide +kernel
theorem dX11_compiles_250 : decode cX11_compiles 250 = .ok (.iload 7, 2) := by decide +kernel
theorem dX11_compiles_252 : decode cX11_compiles 252 = .ok (.ifCond .ne 10, 3) := by decide +kernel
theorem dX11_compiles_255 : decode cX11_compiles 255 = .ok (.iload_n 3, 1) := by decide +kernel
theorem dX11_compiles_256 : decode cX11_compiles 256 = .ok (.iload 4, 2) := by decide +kernel
theorem dX11_compiles_258 : decode cX11_compiles 258 = .ok (.iadd, 1) := by decide +kernel
theorem dX11_compiles_259 : decode cX11_compiles 259 = .ok (.goto 14, 3) := by decide +kernel
theorem dX11_compiles_262 : decode cX11_compiles 262 = .ok (.iload 7, 2) := by decide +kernel
theorem dX11_compiles_264 : decode cX11_compiles 264 = .ok (.iconst 1, 1) := by decide +kernel
theorem dX11_compiles_265 : decode cX11_compiles 265 = .ok (.if_icmp .ne 7, 3) := by decide +kernel
theorem dX11_compiles_268 : decode cX11_compiles 268 = .ok (.iload_n 3, 1) := by decide +kernel
theorem dX11_compiles_269 : decode cX11_compiles 269 = .ok (.goto 4, 3) := by decide +kernel
theorem dX11_compiles_272 : decode cX11_compiles 272 = .ok (.iconst 0, 1) := by decide +kernel
theorem dX11_compiles_273 : decode cX11_compiles 273 = .ok (.isub, 1) := by decide +kernel
theorem dX11_compiles_274 : decode cX11_compiles 274 = .ok (.istore 8, 2) := by decide +kernel
theorem dX11_compiles_276 : decode cX11_compiles 276 = .ok (.aload_n 0, 1) := by decide +kernel
theorem dX11_compiles_277 : decode cX11_compiles 277 = .ok (.getfield 181, 3) := by decide +kernel
theorem dX11_compiles_280 : decode cX11_compiles 280 = .ok (.ifCond .le 67, 3) := by decide +kernel
theorem dX11_compiles_283 : decode cX11_compiles 283 = .ok (.aload_n 0, 1) := by decide +kernel
theorem dX11_compiles_284 : decode cX11_compiles 284 = .ok (.getfield 44, 3) := by decide +kernel
theorem dX11_compiles_287 : decode cX11_compiles 287 = .ok (.aload_n 0, 1) := by decide +kernel
theorem dX11_compiles_288 : decode cX11_compiles 288 = .ok (.getfield 181, 3) := by decide +kernel
theorem dX11_compiles_291 : decode cX11_compiles 291 = .ok (.iconst 1, 1) := by decide +kernel
theorem dX11_compiles_292 : decode cX11_compiles 292 = .ok (.isub, 1) := by decide +kernel
theorem dX11_compiles_293 : decode cX11_compiles 293 = .ok (.iaload, 1) := by decide +kernel
theorem dX11_compiles_294 : decode cX11_compiles 294 = .ok (.iload 8, 2) := by decide +kernel
theorem dX11_compiles_296 : decode cX11_compiles 296 = .ok (.if_icmp .lt 51, 3) := by decide +kernel
theorem dX11_compiles_299 : decode cX11_compiles 299 = .ok (.aload_n 0, 1) := by decide +kernel
theorem dX11_compiles_300 : decode cX11_compiles 300 = .ok (.getfield 59, 3) := by decide +kernel
theorem dX11_compiles_303 : decode cX11_compiles 303 = .ok (.aload_n 0, 1) := by decide +kernel
theorem dX11_compiles_304 : decode cX11_compiles 304 = .ok (.getfield 184, 3) := by decide +kernel
theorem dX11_compiles_307 : decode cX11_compiles 307 = .ok (.aload_n 0, 1) := by decide +kernel
theorem dX11_compiles_308 : decode cX11_compiles 308 = .ok (.getfield 38, 3) := by decide +kernel
theorem dX11_compiles_311 : decode cX11_compiles 311 = .ok (.iload 5, 2) := by decide +kernel
theorem dX11_compiles_313 : decode cX11_compiles 313 = .ok (.iaload, 1) := by decide +kernel
theorem dX11_compiles_314 : decode cX11_compiles 314 = .ok (.iastore, 1) := by decide +kernel
theorem dX11_compiles_315 : decode cX11_compiles 315 = .ok (.aload_n 0, 1) := by decide +kernel
theorem dX11_compiles_316 : decode cX11_compiles 316 = .ok (.getfield 62, 3) := by decide +kernel
theorem dX11_compiles_319 : decode cX11_compiles 319 = .ok (.aload_n 0, 1) := by decide +kernel
theorem dX11_compiles_320 : decode cX11_compiles 320 = .ok (.getfield 184, 3) := by decide +kernel
theorem dX11_compiles_323 : decode cX11_compiles 323 = .ok (.iload 8, 2) := by decide +kernel
theorem dX11_compiles_325 : decode cX11_compiles 325 = .ok (.iastore, 1) := by decide +kernel
theorem dX11_compiles_326 : decode cX11_compiles 326 = .ok (.aload_n 0, 1) := by decide +kernel
theorem dX11_compiles_327 : decode cX11_compiles 327 = .ok (.getfield 65, 3) := by decide +kernel
theorem dX11_compiles_330 : decode cX11_compiles 330 = .ok (.aload_n 0, 1) := by decide +kernel
theorem dX11_compiles_331 : decode cX11_compiles 331 = .ok (.dup, 1) := by decide +kernel
theorem dX11_compiles_332 : decode cX11_compiles 332 = .ok (.getfield 184, 3) := by decide +kernel
theorem dX11_compiles_335 : decode cX11_compiles 335 = .ok (.dup_x1, 1) := by decide +kernel
theorem dX11_compiles_336 : decode cX11_compiles 336 = .ok (.iconst 1, 1) := by decide +kernel
theorem dX11_compiles_337 : decode cX11_compiles 337 = .ok (.iadd, 1) := by decide +kernel
theorem dX11_compiles_338 : decode cX11_compiles 338 = .ok (.putfield 184, 3) := by decide +kernel
theorem dX11_compiles_341 : decode cX11_compiles 341 = .ok (.iload 6, 2) := by decide +kernel
theorem dX11_compiles_343 : decode cX11_compiles 343 = .ok (.iastore, 1) := by decide +kernel
theorem dX11_compiles_344 : decode cX11_compiles 344 = .ok (.goto 131, 3) := by decide +kernel
theorem dX11_compiles_347 : decode cX11_compiles 347 = .ok (.iload_n 3, 1) := by decide +kernel
theorem dX11_compiles_348 : decode cX11_compiles 348 = .ok (.iload 4, 2) := by decide +kernel
theorem dX11_compiles_350 : decode cX11_compiles 350 = .ok (.iadd, 1) := by decide +kernel
theorem dX11_compiles_351 : decode cX11_compiles 351 = .ok (.istore 9, 2) := by decide +kernel
theorem dX11_compiles_353 : decode cX11_compiles 353 = .ok (.iload 6, 2) := by decide +kernel
theorem dX11_compiles_355 : decode cX11_compiles 355 = .ok (.bipush 100, 2) := by decide +kernel
theorem dX11_compiles_357 : decode cX11_compiles 357 = .ok (.if_icmp .lt 26, 3) := by decide +kernel
theorem dX11_compiles_360 : decode cX11_compiles 360 = .ok (.aload_n 0, 1) := by decide +kernel
theorem dX11_compiles_361 : decode cX11_compiles 361 = .ok (.getfield 9, 3) := by decide +kernel
theorem dX11_compiles_364 : decode cX11_compiles 364 = .ok (.iload_n 2, 1) := by decide +kernel
theorem dX11_compiles_365 : decode cX11_compiles 365 = .ok (.bipush 59, 2) := by decide +kernel
theorem dX11_compiles_367 : decode cX11_compiles 367 = .ok (.iadd, 1) := by decide +kernel
theorem dX11_compiles_368 : decode cX11_compiles 368 = .ok (.iconst 2, 1) := by decide +kernel
theorem dX11_compiles_369 : decode cX11_compiles 369 = .ok (.iload 6, 2) := by decide +kernel
theorem dX11_compiles_371 : decode cX11_compiles 371 = .ok (.bipush 100, 2) := by decide +kernel
theorem dX11_compiles_373 : decode cX11_compiles 373 = .ok (.isub, 1) := by decide +kernel
theorem dX11_compiles_374 : decode cX11_compiles 374 = .ok (.imul, 1) := by decide +kernel
theorem dX11_compiles_375 : decode cX11_compiles 375 = .ok (.iadd, 1) := by decide +kernel
theorem dX11_compiles_376 : decode cX11_compiles 376 = .ok (.iconst 1, 1) := by decide +kernel
theorem dX11_compiles_377 : decode cX11_compiles 377 = .ok (.iadd, 1) := by decide +kernel
theorem dX11_compiles_378 : decode cX11_compiles 378 = .ok (.iaload, 1) := by decide +kernel
theorem dX11_compiles_379 : decode cX11_compiles 379 = .ok (.istore_n 3, 1) := by decide +kernel
theorem dX11_compiles_380 : decode cX11_compiles 380 = .ok (.goto 19, 3) := by decide +kernel
theorem dX11_compiles_383 : decode cX11_compiles 383 = .ok (.aload_n 0, 1) := by decide +kernel
theorem dX11_compiles_384 : decode cX11_compiles 384 = .ok (.getfield 9, 3) := by decide +kernel
theorem dX11_compiles_387 : decode cX11_compiles 387 = .ok (.iload_n 1, 1) := by decide +kernel
theorem dX11_compiles_388 : decode cX11_compiles 388 = .ok (.iload 6, 2) := by decide +kernel
theorem dX11_compiles_390 : decode cX11_compiles 390 = .ok (.invokestatic 135, 3) := by decide +kernel
theorem dX11_compiles_393 : decode cX11_compiles 393 = .ok (.bipush 6, 2) := by decide +kernel
theorem dX11_compiles_395 : decode cX11_compiles 395 = .ok (.iadd, 1) := by decide +kernel
theorem dX11_compiles_396 : decode cX11_compiles 396 = .ok (.iaload, 1) := by decide +kernel
theorem dX11_compiles_397 : decode cX11_compiles 397 = .ok (.istore 4, 2) := by decide +kernel
theorem dX11_compiles_399 : decode cX11_compiles 399 = .ok (.iload_n 3, 1) := by decide +kernel
theorem dX11_compiles_400 : decode cX11_compiles 400 = .ok (.iload 4, 2) := by decide +kernel
theorem dX11_compiles_402 : decode cX11_compiles 402 = .ok (.iadd, 1) := by decide +kernel
theorem dX11_compiles_403 : decode cX11_compiles 403 = .ok (.iload 9, 2) := by decide +kernel
theorem dX11_compiles_405 : decode cX11_compiles 405 = .ok (.if_icmp .ne 6, 3) := by decide +kernel
theorem dX11_compiles_408 : decode cX11_compiles 408 = .ok (.goto 67, 3) := by decide +kernel
theorem dX11_compiles_411 : decode cX11_compiles 411 = .ok (.aload_n 0, 1) := by decide +kernel
theorem dX11_compiles_412 : decode cX11_compiles 412 = .ok (.getfield 44, 3) := by decide +kernel
theorem dX11_compiles_415 : decode cX11_compiles 415 = .ok (.aload_n 0, 1) := by decide +kernel
theorem dX11_compiles_416 : decode cX11_compiles 416 = .ok (.getfield 181, 3) := by decide +kernel
theorem dX11_compiles_419 : decode cX11_compiles 419 = .ok (.iload 8, 2) := by decide +kernel
theorem dX11_compiles_421 : decode cX11_compiles 421 = .ok (.iastore, 1) := by decide +kernel
theorem dX11_compiles_422 : decode cX11_compiles 422 = .ok (.aload_n 0, 1) := by decide +kernel
theorem dX11_compiles_423 : decode cX11_compiles 423 = .ok (.getfield 47, 3) := by decide +kernel
theorem dX11_compiles_426 : decode cX11_compiles 426 = .ok (.aload_n 0, 1) := by decide +kernel
theorem dX11_compiles_427 : decode cX11_compiles 427 = .ok (.getfield 181, 3) := by decide +kernel
theorem dX11_compiles_430 : decode cX11_compiles 430 = .ok (.iload 9, 2) := by decide +kernel
theorem dX11_compiles_432 : decode cX11_compiles 432 = .ok (.iastore, 1) := by decide +kernel
theorem dX11_compiles_433 : decode cX11_compiles 433 = .ok (.aload_n 0, 1) := by decide +kernel
theorem dX11_compiles_434 : decode cX11_compiles 434 = .ok (.getfield 50, 3) := by decide +kernel
theorem dX11_compiles_437 : decode cX11_compiles 437 = .ok (.aload_n 0, 1) := by decide +kernel
theorem dX11_compiles_438 : decode cX11_compiles 438 = .ok (.getfield 181, 3) := by decide +kernel
theorem dX11_compiles_441 : decode cX11_compiles 441 = .ok (.iload_n 3, 1) := by decide +kernel
theorem dX11_compiles_442 : decode cX11_compiles 442 = .ok (.iload 4, 2) := by decide +kernel
theorem dX11_compiles_444 : decode cX11_compiles 444 = .ok (.iadd, 1) := by decide +kernel
theorem dX11_compiles_445 : decode cX11_compiles 445 = .ok (.iastore, 1) := by decide +kernel
theorem dX11_compiles_446 : decode cX11_compiles 446 = .ok (.aload_n 0, 1) := by decide +kernel
theorem dX11_compiles_447 : decode cX11_compiles 447 = .ok (.getfield 53, 3) := by decide +kernel
theorem dX11_compiles_450 : decode cX11_compiles 450 = .ok (.aload_n 0, 1) := by decide +kernel
theorem dX11_compiles_451 : decode cX11_compiles 451 = .ok (.getfield 181, 3) := by decide +kernel
theorem dX11_compiles_454 : decode cX11_compiles 454 = .ok (.iload 4, 2) := by decide +kernel
theorem dX11_compiles_456 : decode cX11_compiles 456 = .ok (.iastore, 1) := by decide +kernel
theorem dX11_compiles_457 : decode cX11_compiles 457 = .ok (.aload_n 0, 1) := by decide +kernel
theorem dX11_compiles_458 : decode cX11_compiles 458 = .ok (.getfield 56, 3) := by decide +kernel
theorem dX11_compiles_461 : decode cX11_compiles 461 = .ok (.aload_n 0, 1) := by decide +kernel
theorem dX11_compiles_462 : decode cX11_compiles 462 = .ok (.dup, 1) := by decide +kernel
theorem dX11_compiles_463 : decode cX11_compiles 463 = .ok (.getfield 181, 3) := by decide +kernel
theorem dX11_compiles_466 : decode cX11_compiles 466 = .ok (.dup_x1, 1) := by decide +kernel
theorem dX11_compiles_467 : decode cX11_compiles 467 = .ok (.iconst 1, 1) := by decide +kernel
theorem dX11_compiles_468 : decode cX11_compiles 468 = .ok (.iadd, 1) := by decide +kernel
theorem dX11_compiles_469 : decode cX11_compiles 469 = .ok (.putfield 181, 3) := by decide +kernel
theorem dX11_compiles_472 : decode cX11_compiles 472 = .ok (.iload 6, 2) := by decide +kernel
theorem dX11_compiles_474 : decode cX11_compiles 474 = .ok (.iastore, 1) := by decide +kernel
theorem dX11_compiles_475 : decode cX11_compiles 475 = .ok (.iinc 5 1, 3) := by decide +kernel
theorem dX11_compiles_478 : decode cX11_compiles 478 = .ok (.goto (-279), 3) := by decide +kernel
theorem dX11_compiles_481 : decode cX11_compiles 481 = .ok (.return_, 1) := by decide +kernel
theorem dX11_offsetIn_0 : decode cX11_offsetIn 0 = .ok (.iload_n 2, 1) := by decide +kernel
theorem dX11_offsetIn_1 : decode cX11_offsetIn 1 = .ok (.ifCond .ne 15, 3) := by decide +kernel
theorem dX11_offsetIn_4 : decode cX11_offsetIn 4 = .ok (.aload_n 0, 1) := by decide +kernel
theorem dX11_offsetIn_5 : decode cX11_offsetIn 5 = .ok (.getfield 9, 3) := by decide +kernel
theorem dX11_offsetIn_8 : decode cX11_offsetIn 8 = .ok (.iload_n 1, 1) := by decide +kernel
theorem dX11_offsetIn_9 : decode cX11_offsetIn 9 = .ok (.invokestatic 123, 3) := by decide +kernel
theorem dX11_offsetIn_12 : decode cX11_offsetIn 12 = .ok (.iaload, 1) := by decide +kernel
theorem dX11_offsetIn_13 : decode cX11_offsetIn 13 = .ok (.goto 11, 3) := by decide +kernel
theorem dX11_offsetIn_16 : decode cX11_offsetIn 16 = .ok (.aload_n 0, 1) := by decide +kernel
theorem dX11_offsetIn_17 : decode cX11_offsetIn 17 = .ok (.getfield 50, 3) := by decide +kernel
theorem dX11_offsetIn_20 : decode cX11_offsetIn 20 = .ok (.iload_n 2, 1) := by decide +kernel
theorem dX11_offsetIn_21 : decode cX11_offsetIn 21 = .ok (.iconst 1, 1) := by decide +kernel
theorem dX11_offsetIn_22 : decode cX11_offsetIn 22 = .ok (.isub, 1) := by decide +kernel
theorem dX11_offsetIn_23 : decode cX11_offsetIn 23 = .ok (.iaload, 1) := by decide +kernel
theorem dX11_offsetIn_24 : decode cX11_offsetIn 24 = .ok (.ireturn, 1) := by decide +kernel
theorem dX11_offsetAt_0 : decode cX11_offsetAt 0 = .ok (.aload_n 0, 1) := by decide +kernel
theorem dX11_offsetAt_1 : decode cX11_offsetAt 1 = .ok (.iload_n 1, 1) := by decide +kernel
theorem dX11_offsetAt_2 : decode cX11_offsetAt 2 = .ok (.invokevirtual 187, 3) := by decide +kernel
theorem dX11_offsetAt_5 : decode cX11_offsetAt 5 = .ok (.iconst 0, 1) := by decide +kernel
theorem dX11_offsetAt_6 : decode cX11_offsetAt 6 = .ok (.istore_n 3, 1) := by decide +kernel
theorem dX11_offsetAt_7 : decode cX11_offsetAt 7 = .ok (.iload_n 3, 1) := by decide +kernel
theorem dX11_offsetAt_8 : decode cX11_offsetAt 8 = .ok (.aload_n 0, 1) := by decide +kernel
theorem dX11_offsetAt_9 : decode cX11_offsetAt 9 = .ok (.getfield 181, 3) := by decide +kernel
theorem dX11_offsetAt_12 : decode cX11_offsetAt 12 = .ok (.if_icmp .ge 19, 3) := by decide +kernel
theorem dX11_offsetAt_15 : decode cX11_offsetAt 15 = .ok (.aload_n 0, 1) := by decide +kernel
theorem dX11_offsetAt_16 : decode cX11_offsetAt 16 = .ok (.getfield 44, 3) := by decide +kernel
theorem dX11_offsetAt_19 : decode cX11_offsetAt 19 = .ok (.iload_n 3, 1) := by decide +kernel
theorem dX11_offsetAt_20 : decode cX11_offsetAt 20 = .ok (.iaload, 1) := by decide +kernel
theorem dX11_offsetAt_21 : decode cX11_offsetAt 21 = .ok (.iload_n 2, 1) := by decide +kernel
theorem dX11_offsetAt_22 : decode cX11_offsetAt 22 = .ok (.if_icmp .gt 9, 3) := by decide +kernel
theorem dX11_offsetAt_25 : decode cX11_offsetAt 25 = .ok (.iinc 3 1, 3) := by decide +kernel
theorem dX11_offsetAt_28 : decode cX11_offsetAt 28 = .ok (.goto (-21), 3) := by decide +kernel
theorem dX11_offsetAt_31 : decode cX11_offsetAt 31 = .ok (.aload_n 0, 1) := by decide +kernel
theorem dX11_offsetAt_32 : decode cX11_offsetAt 32 = .ok (.iload_n 1, 1) := by decide +kernel
theorem dX11_offsetAt_33 : decode cX11_offsetAt 33 = .ok (.iload_n 3, 1) := by decide +kernel
theorem dX11_offsetAt_34 : decode cX11_offsetAt 34 = .ok (.invokevirtual 191, 3) := by decide +kernel
theorem dX11_offsetAt_37 : decode cX11_offsetAt 37 = .ok (.ireturn, 1) := by decide +kernel
theorem dX11_zone_0 : decode cX11_zone 0 = .ok (.aload_n 0, 1) := by decide +kernel
theorem dX11_zone_1 : decode cX11_zone 1 = .ok (.iconst 0, 1) := by decide +kernel
theorem dX11_zone_2 : decode cX11_zone 2 = .ok (.putfield 80, 3) := by decide +kernel
theorem dX11_zone_5 : decode cX11_zone 5 = .ok (.aload_n 0, 1) := by decide +kernel
theorem dX11_zone_6 : decode cX11_zone 6 = .ok (.iload_n 1, 1) := by decide +kernel
theorem dX11_zone_7 : decode cX11_zone 7 = .ok (.invokevirtual 126, 3) := by decide +kernel
theorem dX11_zone_10 : decode cX11_zone 10 = .ok (.ifCond .ne 9, 3) := by decide +kernel
theorem dX11_zone_13 : decode cX11_zone 13 = .ok (.aload_n 0, 1) := by decide +kernel
theorem dX11_zone_14 : decode cX11_zone 14 = .ok (.iconst 1, 1) := by decide +kernel
theorem dX11_zone_15 : decode cX11_zone 15 = .ok (.invokevirtual 110, 3) := by decide +kernel
theorem dX11_zone_18 : decode cX11_zone 18 = .ok (.ireturn, 1) := by decide +kernel
theorem dX11_zone_19 : decode cX11_zone 19 = .ok (.iload_n 2, 1) := by decide +kernel
theorem dX11_zone_20 : decode cX11_zone 20 = .ok (.iconst 0, 1) := by decide +kernel
theorem dX11_zone_21 : decode cX11_zone 21 = .ok (.bipush 8, 2) := by decide +kernel
theorem dX11_zone_23 : decode cX11_zone 23 = .ok (.invokestatic 106, 3) := by decide +kernel
theorem dX11_zone_26 : decode cX11_zone 26 = .ok (.ifCond .ne 9, 3) := by decide +kernel
theorem dX11_zone_29 : decode cX11_zone 29 = .ok (.aload_n 0, 1) := by decide +kernel
theorem dX11_zone_30 : decode cX11_zone 30 = .ok (.iconst 2, 1) := by decide +kernel
theorem dX11_zone_31 : decode cX11_zone 31 = .ok (.invokevirtual 110, 3) := by decide +kernel
theorem dX11_zone_34 : decode cX11_zone 34 = .ok (.ireturn, 1) := by decide +kernel
theorem dX11_zone_35 : decode cX11_zone 35 = .ok (.iload_n 2, 1) := by decide +kernel
theorem dX11_zone_36 : decode cX11_zone 36 = .ok (.iconst 3, 1) := by decide +kernel
theorem dX11_zone_37 : decode cX11_zone 37 = .ok (.if_icmp .ge 15, 3) := by decide +kernel
theorem dX11_zone_40 : decode cX11_zone 40 = .ok (.aload_n 0, 1) := by decide +kernel
theorem dX11_zone_41 : decode cX11_zone 41 = .ok (.getfield 9, 3) := by decide +kernel
theorem dX11_zone_44 : decode cX11_zone 44 = .ok (.iload_n 1, 1) := by decide +kernel
theorem dX11_zone_45 : decode cX11_zone 45 = .ok (.invokestatic 123, 3) := by decide +kernel
theorem dX11_zone_48 : decode cX11_zone 48 = .ok (.iload_n 2, 1) := by decide +kernel
theorem dX11_zone_49 : decode cX11_zone 49 = .ok (.iadd, 1) := by decide +kernel
theorem dX11_zone_50 : decode cX11_zone 50 = .ok (.iaload, 1) := by decide +kernel
theorem dX11_zone_51 : decode cX11_zone 51 = .ok (.ireturn, 1) := by decide +kernel
theorem dX11_zone_52 : decode cX11_zone 52 = .ok (.aload_n 0, 1) := by decide +kernel
theorem dX11_zone_53 : decode cX11_zone 53 = .ok (.iload_n 1, 1) := by decide +kernel
theorem dX11_zone_54 : decode cX11_zone 54 = .ok (.invokevirtual 187, 3) := by decide +kernel
theorem dX11_zone_57 : decode cX11_zone 57 = .ok (.iload_n 2, 1) := by decide +kernel
theorem dX11_zone_58 : decode cX11_zone 58 = .ok (.iconst 3, 1) := by decide +kernel
theorem dX11_zone_59 : decode cX11_zone 59 = .ok (.if_icmp .ne 8, 3) := by decide +kernel
theorem dX11_zone_62 : decode cX11_zone 62 = .ok (.aload_n 0, 1) := by decide +kernel
theorem dX11_zone_63 : decode cX11_zone 63 = .ok (.getfield 181, 3) := by decide +kernel
theorem dX11_zone_66 : decode cX11_zone 66 = .ok (.ireturn, 1) := by decide +kernel
theorem dX11_zone_67 : decode cX11_zone 67 = .ok (.iload_n 2, 1) := by decide +kernel
theorem dX11_zone_68 : decode cX11_zone 68 = .ok (.iconst 4, 1) := by decide +kernel
theorem dX11_zone_69 : decode cX11_zone 69 = .ok (.if_icmp .ne 8, 3) := by decide +kernel
theorem dX11_zone_72 : decode cX11_zone 72 = .ok (.aload_n 0, 1) := by decide +kernel
theorem dX11_zone_73 : decode cX11_zone 73 = .ok (.getfield 184, 3) := by decide +kernel
theorem dX11_zone_76 : decode cX11_zone 76 = .ok (.ireturn, 1) := by decide +kernel
theorem dX11_zone_77 : decode cX11_zone 77 = .ok (.iload_n 2, 1) := by decide +kernel
theorem dX11_zone_78 : decode cX11_zone 78 = .ok (.iconst 5, 1) := by decide +kernel
theorem dX11_zone_79 : decode cX11_zone 79 = .ok (.if_icmp .ne 8, 3) := by decide +kernel
theorem dX11_zone_82 : decode cX11_zone 82 = .ok (.aload_n 0, 1) := by decide +kernel
theorem dX11_zone_83 : decode cX11_zone 83 = .ok (.getfield 168, 3) := by decide +kernel
theorem dX11_zone_86 : decode cX11_zone 86 = .ok (.ireturn, 1) := by decide +kernel
theorem dX11_zone_87 : decode cX11_zone 87 = .ok (.iload_n 2, 1) := by decide +kernel
theorem dX11_zone_88 : decode cX11_zone 88 = .ok (.bipush 6, 2) := by decide +kernel
theorem dX11_zone_90 : decode cX11_zone 90 = .ok (.if_icmp .ne 13, 3) := by decide +kernel
theorem dX11_zone_93 : decode cX11_zone 93 = .ok (.aload_n 0, 1) := by decide +kernel
theorem dX11_zone_94 : decode cX11_zone 94 = .ok (.iload_n 1, 1) := by decide +kernel
theorem dX11_zone_95 : decode cX11_zone 95 = .ok (.aload_n 0, 1) := by decide +kernel
theorem dX11_zone_96 : decode cX11_zone 96 = .ok (.getfield 181, 3) := by decide +kernel
theorem dX11_zone_99 : decode cX11_zone 99 = .ok (.invokevirtual 191, 3) := by decide +kernel
theorem dX11_zone_102 : decode cX11_zone 102 = .ok (.ireturn, 1) := by decide +kernel
theorem dX11_zone_103 : decode cX11_zone 103 = .ok (.aload_n 0, 1) := by decide +kernel
theorem dX11_zone_104 : decode cX11_zone 104 = .ok (.iload_n 1, 1) := by decide +kernel
theorem dX11_zone_105 : decode cX11_zone 105 = .ok (.iconst 0, 1) := by decide +kernel
theorem dX11_zone_106 : decode cX11_zone 106 = .ok (.invokevirtual 191, 3) := by decide +kernel
theorem dX11_zone_109 : decode cX11_zone 109 = .ok (.istore_n 3, 1) := by decide +kernel
theorem dX11_zone_110 : decode cX11_zone 110 = .ok (.iconst 1, 1) := by decide +kernel
theorem dX11_zone_111 : decode cX11_zone 111 = .ok (.istore 4, 2) := by decide +kernel
theorem dX11_zone_113 : decode cX11_zone 113 = .ok (.iload 4, 2) := by decide +kernel
theorem dX11_zone_115 : decode cX11_zone 115 = .ok (.aload_n 0, 1) := by decide +kernel
theorem dX11_zone_116 : decode cX11_zone 116 = .ok (.getfield 181, 3) := by decide +kernel
theorem dX11_zone_119 : decode cX11_zone 119 = .ok (.if_icmp .gt 41, 3) := by decide +kernel
theorem dX11_zone_122 : decode cX11_zone 122 = .ok (.iload_n 2, 1) := by decide +kernel
theorem dX11_zone_123 : decode cX11_zone 123 = .ok (.bipush 7, 2) := by decide +kernel
theorem dX11_zone_125 : decode cX11_zone 125 = .ok (.if_icmp .ne 17, 3) := by decide +kernel
theorem dX11_zone_128 : decode cX11_zone 128 = .ok (.iload_n 3, 1) := by decide +kernel
theorem dX11_zone_129 : decode cX11_zone 129 = .ok (.aload_n 0, 1) := by decide +kernel
theorem dX11_zone_130 : decode cX11_zone 130 = .ok (.iload_n 1, 1) := by decide +kernel
theorem dX11_zone_131 : decode cX11_zone 131 = .ok (.iload 4, 2) := by decide +kernel
theorem dX11_zone_133 : decode cX11_zone 133 = .ok (.invokevirtual 191, 3) := by decide +kernel
theorem dX11_zone_136 : decode cX11_zone 136 = .ok (.invokestatic 194, 3) := by decide +kernel
theorem dX11_zone_139 : decode cX11_zone 139 = .ok (.goto 14, 3) := by decide +kernel
theorem dX11_zone_142 : decode cX11_zone 142 = .ok (.iload_n 3, 1) := by decide +kernel
theorem dX11_zone_143 : decode cX11_zone 143 = .ok (.aload_n 0, 1) := by decide +kernel
theorem dX11_zone_144 : decode cX11_zone 144 = .ok (.iload_n 1, 1) := by decide +kernel
theorem dX11_zone_145 : decode cX11_zone 145 = .ok (.iload 4, 2) := by decide +kernel
theorem dX11_zone_147 : decode cX11_zone 147 = .ok (.invokevirtual 191, 3) := by decide +kernel
theorem dX11_zone_150 : decode cX11_zone 150 = .ok (.invokestatic 199, 3) := by decide +kernel
theorem dX11_zone_153 : decode cX11_zone 153 = .ok (.istore_n 3, 1) := by decide +kernel
theorem dX11_zone_154 : decode cX11_zone 154 = .ok (.iinc 4 1, 3) := by decide +kernel
theorem dX11_zone_157 : decode cX11_zone 157 = .ok (.goto (-44), 3) := by decide +kernel
theorem dX11_zone_160 : decode cX11_zone 160 = .ok (.iload_n 3, 1) := by decide +kernel
theorem dX11_zone_161 : decode cX11_zone 161 = .ok (.ireturn, 1) := by decide +kernel
theorem dX11_rule_0 : decode cX11_rule 0 = .ok (.aload_n 0, 1) := by decide +kernel
theorem dX11_rule_1 : decode cX11_rule 1 = .ok (.iconst 0, 1) := by decide +kernel
theorem dX11_rule_2 : decode cX11_rule 2 = .ok (.putfield 80, 3) := by decide +kernel
theorem dX11_rule_5 : decode cX11_rule 5 = .ok (.aload_n 0, 1) := by decide +kernel
theorem dX11_rule_6 : decode cX11_rule 6 = .ok (.iload_n 1, 1) := by decide +kernel
theorem dX11_rule_7 : decode cX11_rule 7 = .ok (.iload_n 2, 1) := by decide +kernel
theorem dX11_rule_8 : decode cX11_rule 8 = .ok (.invokevirtual 138, 3) := by decide +kernel
theorem dX11_rule_11 : decode cX11_rule 11 = .ok (.ifCond .ne 9, 3) := by decide +kernel
theorem dX11_rule_14 : decode cX11_rule 14 = .ok (.aload_n 0, 1) := by decide +kernel
theorem dX11_rule_15 : decode cX11_rule 15 = .ok (.iconst 1, 1) := by decide +kernel
theorem dX11_rule_16 : decode cX11_rule 16 = .ok (.invokevirtual 110, 3) := by decide +kernel
theorem dX11_rule_19 : decode cX11_rule 19 = .ok (.ireturn, 1) := by decide +kernel
theorem dX11_rule_20 : decode cX11_rule 20 = .ok (.iload_n 3, 1) := by decide +kernel
theorem dX11_rule_21 : decode cX11_rule 21 = .ok (.iconst 0, 1) := by decide +kernel
theorem dX11_rule_22 : decode cX11_rule 22 = .ok (.bipush 6, 2) := by decide +kernel
theorem dX11_rule_24 : decode cX11_rule 24 = .ok (.invokestatic 106, 3) := by decide +kernel
theorem dX11_rule_27 : decode cX11_rule 27 = .ok (.ifCond .eq 18, 3) := by decide +kernel
theorem dX11_rule_30 : decode cX11_rule 30 = .ok (.aload_n 0, 1) := by decide +kernel
theorem dX11_rule_31 : decode cX11_rule 31 = .ok (.getfield 9, 3) := by decide +kernel
theorem dX11_rule_34 : decode cX11_rule 34 = .ok (.iload_n 1, 1) := by decide +kernel
theorem dX11_rule_35 : decode cX11_rule 35 = .ok (.iload_n 2, 1) := by decide +kernel
theorem dX11_rule_36 : decode cX11_rule 36 = .ok (.invokestatic 135, 3) := by decide +kernel
theorem dX11_rule_39 : decode cX11_rule 39 = .ok (.iload_n 3, 1) := by decide +kernel
theorem dX11_rule_40 : decode cX11_rule 40 = .ok (.iadd, 1) := by decide +kernel
theorem dX11_rule_41 : decode cX11_rule 41 = .ok (.iaload, 1) := by decide +kernel
theorem dX11_rule_42 : decode cX11_rule 42 = .ok (.goto 8, 3) := by decide +kernel
theorem dX11_rule_45 : decode cX11_rule 45 = .ok (.aload_n 0, 1) := by decide +kernel
theorem dX11_rule_46 : decode cX11_rule 46 = .ok (.iconst 2, 1) := by decide +kernel
theorem dX11_rule_47 : decode cX11_rule 47 = .ok (.invokevirtual 110, 3) := by decide +kernel
theorem dX11_rule_50 : decode cX11_rule 50 = .ok (.ireturn, 1) := by decide +kernel
theorem dX11_eventDay_0 : decode cX11_eventDay 0 = .ok (.aload_n 0, 1) := by decide +kernel
theorem dX11_eventDay_1 : decode cX11_eventDay 1 = .ok (.iconst 0, 1) := by decide +kernel
theorem dX11_eventDay_2 : decode cX11_eventDay 2 = .ok (.putfield 80, 3) := by decide +kernel
theorem dX11_eventDay_5 : decode cX11_eventDay 5 = .ok (.aload_n 0, 1) := by decide +kernel
theorem dX11_eventDay_6 : decode cX11_eventDay 6 = .ok (.iload_n 1, 1) := by decide +kernel
theorem dX11_eventDay_7 : decode cX11_eventDay 7 = .ok (.iload_n 2, 1) := by decide +kernel
theorem dX11_eventDay_8 : decode cX11_eventDay 8 = .ok (.invokevirtual 138, 3) := by decide +kernel
theorem dX11_eventDay_11 : decode cX11_eventDay 11 = .ok (.ifCond .ne 9, 3) := by decide +kernel
theorem dX11_eventDay_14 : decode cX11_eventDay 14 = .ok (.aload_n 0, 1) := by decide +kernel
theorem dX11_eventDay_15 : decode cX11_eventDay 15 = .ok (.iconst 1, 1) := by decide +kernel
theorem dX11_eventDay_16 : decode cX11_eventDay 16 = .ok (.invokevirtual 110, 3) := by decide +kernel
theorem dX11_eventDay_19 : decode cX11_eventDay 19 = .ok (.ireturn, 1) := by decide +kernel
theorem dX11_eventDay_20 : decode cX11_eventDay 20 = .ok (.iload_n 3, 1) := by decide +kernel
theorem dX11_eventDay_21 : decode cX11_eventDay 21 = .ok (.iconst 0, 1) := by decide +kernel
theorem dX11_eventDay_22 : decode cX11_eventDay 22 = .ok (.bipush 31, 2) := by decide +kernel
theorem dX11_eventDay_24 : decode cX11_eventDay 24 = .ok (.invokestatic 106, 3) := by decide +kernel
theorem dX11_eventDay_27 : decode cX11_eventDay 27 = .ok (.ifCond .ne 9, 3) := by decide +kernel
theorem dX11_eventDay_30 : decode cX11_eventDay 30 = .ok (.aload_n 0, 1) := by decide +kernel
theorem dX11_eventDay_31 : decode cX11_eventDay 31 = .ok (.iconst 2, 1) := by decide +kernel
theorem dX11_eventDay_32 : decode cX11_eventDay 32 = .ok (.invokevirtual 110, 3) := by decide +kernel
theorem dX11_eventDay_35 : decode cX11_eventDay 35 = .ok (.ireturn, 1) := by decide +kernel
theorem dX11_eventDay_36 : decode cX11_eventDay 36 = .ok (.iload_n 1, 1) := by decide +kernel
theorem dX11_eventDay_37 : decode cX11_eventDay 37 = .ok (.iload_n 2, 1) := by decide +kernel
theorem dX11_eventDay_38 : decode cX11_eventDay 38 = .ok (.invokestatic 135, 3) := by decide +kernel
theorem dX11_eventDay_41 : decode cX11_eventDay 41 = .ok (.istore 4, 2) := by decide +kernel
theorem dX11_eventDay_43 : decode cX11_eventDay 43 = .ok (.iload_n 3, 1) := by decide +kernel
theorem dX11_eventDay_44 : decode cX11_eventDay 44 = .ok (.aload_n 0, 1) := by decide +kernel
theorem dX11_eventDay_45 : decode cX11_eventDay 45 = .ok (.getfield 9, 3) := by decide +kernel
theorem dX11_eventDay_48 : decode cX11_eventDay 48 = .ok (.iload 4, 2) := by decide +kernel
theorem dX11_eventDay_50 : decode cX11_eventDay 50 = .ok (.iaload, 1) := by decide +kernel
theorem dX11_eventDay_51 : decode cX11_eventDay 51 = .ok (.aload_n 0, 1) := by decide +kernel
theorem dX11_eventDay_52 : decode cX11_eventDay 52 = .ok (.getfield 9, 3) := by decide +kernel
theorem dX11_eventDay_55 : decode cX11_eventDay 55 = .ok (.iload 4, 2) := by decide +kernel
theorem dX11_eventDay_57 : decode cX11_eventDay 57 = .ok (.iconst 1, 1) := by decide +kernel
theorem dX11_eventDay_58 : decode cX11_eventDay 58 = .ok (.iadd, 1) := by decide +kernel
theorem dX11_eventDay_59 : decode cX11_eventDay 59 = .ok (.iaload, 1) := by decide +kernel
theorem dX11_eventDay_60 : decode cX11_eventDay 60 = .ok (.invokestatic 106, 3) := by decide +kernel
theorem dX11_eventDay_63 : decode cX11_eventDay 63 = .ok (.ifCond .eq 28, 3) := by decide +kernel
theorem dX11_eventDay_66 : decode cX11_eventDay 66 = .ok (.aload_n 0, 1) := by decide +kernel
theorem dX11_eventDay_67 : decode cX11_eventDay 67 = .ok (.getfield 9, 3) := by decide +kernel
theorem dX11_eventDay_70 : decode cX11_eventDay 70 = .ok (.iload 4, 2) := by decide +kernel
theorem dX11_eventDay_72 : decode cX11_eventDay 72 = .ok (.iconst 3, 1) := by decide +kernel
theorem dX11_eventDay_73 : decode cX11_eventDay 73 = .ok (.iadd, 1) := by decide +kernel
theorem dX11_eventDay_74 : decode cX11_eventDay 74 = .ok (.iaload, 1) := by decide +kernel
theorem dX11_eventDay_75 : decode cX11_eventDay 75 = .ok (.iload_n 3, 1) := by decide +kernel
theorem dX11_eventDay_76 : decode cX11_eventDay 76 = .ok (.aload_n 0, 1) := by decide +kernel
theorem dX11_eventDay_77 : decode cX11_eventDay 77 = .ok (.getfield 9, 3) := by decide +kernel
theorem dX11_eventDay_80 : decode cX11_eventDay 80 = .ok (.iload 4, 2) := by decide +kernel
theorem dX11_eventDay_82 : decode cX11_eventDay 82 = .ok (.iconst 2, 1) := by decide +kernel
theorem dX11_eventDay_83 : decode cX11_eventDay 83 = .ok (.iadd, 1) := by decide +kernel
theorem dX11_eventDay_84 : decode cX11_eventDay 84 = .ok (.iaload, 1) := by decide +kernel
theorem dX11_eventDay_85 : decode cX11_eventDay 85 = .ok (.invokestatic 174, 3) := by decide +kernel
theorem dX11_eventDay_88 : decode cX11_eventDay 88 = .ok (.goto 4, 3) := by decide +kernel
theorem dX11_eventDay_91 : decode cX11_eventDay 91 = .ok (.iconst (-1), 1) := by decide +kernel
theorem dX11_eventDay_92 : decode cX11_eventDay 92 = .ok (.istore 5, 2) := by decide +kernel
theorem dX11_eventDay_94 : decode cX11_eventDay 94 = .ok (.iload 5, 2) := by decide +kernel
theorem dX11_eventDay_96 : decode cX11_eventDay 96 = .ok (.ifCond .ge 11, 3) := by decide +kernel
theorem dX11_eventDay_99 : decode cX11_eventDay 99 = .ok (.aload_n 0, 1) := by decide +kernel
theorem dX11_eventDay_100 : decode cX11_eventDay 100 = .ok (.iconst 3, 1) := by decide +kernel
theorem dX11_eventDay_101 : decode cX11_eventDay 101 = .ok (.invokevirtual 110, 3) := by decide +kernel
theorem dX11_eventDay_104 : decode cX11_eventDay 104 = .ok (.goto 5, 3) := by decide +kernel
theorem dX11_eventDay_107 : decode cX11_eventDay 107 = .ok (.iload 5, 2) := by decide +kernel
theorem dX11_eventDay_109 : decode cX11_eventDay 109 = .ok (.ireturn, 1) := by decide +kernel
theorem dX11_transition_0 : decode cX11_transition 0 = .ok (.aload_n 0, 1) := by decide +kernel
theorem dX11_transition_1 : decode cX11_transition 1 = .ok (.iconst 0, 1) := by decide +kernel
theorem dX11_transition_2 : decode cX11_transition 2 = .ok (.putfield 80, 3) := by decide +kernel
theorem dX11_transition_5 : decode cX11_transition 5 = .ok (.aload_n 0, 1) := by decide +kernel
theorem dX11_transition_6 : decode cX11_transition 6 = .ok (.iload_n 1, 1) := by decide +kernel
theorem dX11_transition_7 : decode cX11_transition 7 = .ok (.invokevirtual 126, 3) := by decide +kernel
theorem dX11_transition_10 : decode cX11_transition 10 = .ok (.ifCond .ne 9, 3) := by decide +kernel
theorem dX11_transition_13 : decode cX11_transition 13 = .ok (.aload_n 0, 1) := by decide +kernel
theorem dX11_transition_14 : decode cX11_transition 14 = .ok (.iconst 1, 1) := by decide +kernel
theorem dX11_transition_15 : decode cX11_transition 15 = .ok (.invokevirtual 110, 3) := by decide +kernel
theorem dX11_transition_18 : decode cX11_transition 18 = .ok (.ireturn, 1) := by decide +kernel
theorem dX11_transition_19 : decode cX11_transition 19 = .ok (.aload_n 0, 1) := by decide +kernel
theorem dX11_transition_20 : decode cX11_transition 20 = .ok (.iload_n 1, 1) := by decide +kernel
theorem dX11_transition_21 : decode cX11_transition 21 = .ok (.invokevirtual 187, 3) := by decide +kernel
theorem dX11_transition_24 : decode cX11_transition 24 = .ok (.iload_n 2, 1) := by decide +kernel
theorem dX11_transition_25 : decode cX11_transition 25 = .ok (.iconst 0, 1) := by decide +kernel
theorem dX11_transition_26 : decode cX11_transition 26 = .ok (.aload_n 0, 1) := by decide +kernel
theorem dX11_transition_27 : decode cX11_transition 27 = .ok (.getfield 181, 3) := by decide +kernel
theorem dX11_transition_30 : decode cX11_transition 30 = .ok (.iconst 1, 1) := by decide +kernel
theorem dX11_transition_31 : decode cX11_transition 31 = .ok (.isub, 1) := by decide +kernel
theorem dX11_transition_32 : decode cX11_transition 32 = .ok (.invokestatic 106, 3) := by decide +kernel
theorem dX11_transition_35 : decode cX11_transition 35 = .ok (.ifCond .ne 9, 3) := by decide +kernel
theorem dX11_transition_38 : decode cX11_transition 38 = .ok (.aload_n 0, 1) := by decide +kernel
theorem dX11_transition_39 : decode cX11_transition 39 = .ok (.iconst 2, 1) := by decide +kernel
theorem dX11_transition_40 : decode cX11_transition 40 = .ok (.invokevirtual 110, 3) := by decide +kernel
theorem dX11_transition_43 : decode cX11_transition 43 = .ok (.ireturn, 1) := by decide +kernel
theorem dX11_transition_44 : decode cX11_transition 44 = .ok (.iload_n 3, 1) := by decide +kernel
theorem dX11_transition_45 : decode cX11_transition 45 = .ok (.tableswitch 70 0 4 #[35, 42, 49, 56, 63], 35) := by decide +kernel
theorem dX11_transition_80 : decode cX11_transition 80 = .ok (.aload_n 0, 1) := by decide +kernel
theorem dX11_transition_81 : decode cX11_transition 81 = .ok (.getfield 44, 3) := by decide +kernel
theorem dX11_transition_84 : decode cX11_transition 84 = .ok (.iload_n 2, 1) := by decide +kernel
theorem dX11_transition_85 : decode cX11_transition 85 = .ok (.iaload, 1) := by decide +kernel
theorem dX11_transition_86 : decode cX11_transition 86 = .ok (.ireturn, 1) := by decide +kernel
theorem dX11_transition_87 : decode cX11_transition 87 = .ok (.aload_n 0, 1) := by decide +kernel
theorem dX11_transition_88 : decode cX11_transition 88 = .ok (.getfield 47, 3) := by decide +kernel
theorem dX11_transition_91 : decode cX11_transition 91 = .ok (.iload_n 2, 1) := by decide +kernel
theorem dX11_transition_92 : decode cX11_transition 92 = .ok (.iaload, 1) := by decide +kernel
theorem dX11_transition_93 : decode cX11_transition 93 = .ok (.ireturn, 1) := by decide +kernel
theorem dX11_transition_94 : decode cX11_transition 94 = .ok (.aload_n 0, 1) := by decide +kernel
theorem dX11_transition_95 : decode cX11_transition 95 = .ok (.getfield 50, 3) := by decide +kernel
theorem dX11_transition_98 : decode cX11_transition 98 = .ok (.iload_n 2, 1) := by decide +kernel
theorem dX11_transition_99 : decode cX11_transition 99 = .ok (.iaload, 1) := by decide +kernel
theorem dX11_transition_100 : decode cX11_transition 100 = .ok (.ireturn, 1) := by decide +kernel
theorem dX11_transition_101 : decode cX11_transition 101 = .ok (.aload_n 0, 1) := by decide +kernel
theorem dX11_transition_102 : decode cX11_transition 102 = .ok (.getfield 53, 3) := by decide +kernel
theorem dX11_transition_105 : decode cX11_transition 105 = .ok (.iload_n 2, 1) := by decide +kernel
theorem dX11_transition_106 : decode cX11_transition 106 = .ok (.iaload, 1) := by decide +kernel
theorem dX11_transition_107 : decode cX11_transition 107 = .ok (.ireturn, 1) := by decide +kernel
theorem dX11_transition_108 : decode cX11_transition 108 = .ok (.aload_n 0, 1) := by decide +kernel
theorem dX11_transition_109 : decode cX11_transition 109 = .ok (.getfield 56, 3) := by decide +kernel
theorem dX11_transition_112 : decode cX11_transition 112 = .ok (.iload_n 2, 1) := by decide +kernel
theorem dX11_transition_113 : decode cX11_transition 113 = .ok (.iaload, 1) := by decide +kernel
theorem dX11_transition_114 : decode cX11_transition 114 = .ok (.ireturn, 1) := by decide +kernel
theorem dX11_transition_115 : decode cX11_transition 115 = .ok (.aload_n 0, 1) := by decide +kernel
theorem dX11_transition_116 : decode cX11_transition 116 = .ok (.iconst 3, 1) := by decide +kernel
theorem dX11_transition_117 : decode cX11_transition 117 = .ok (.invokevirtual 110, 3) := by decide +kernel
theorem dX11_transition_120 : decode cX11_transition 120 = .ok (.ireturn, 1) := by decide +kernel
theorem dX11_voidEvent_0 : decode cX11_voidEvent 0 = .ok (.aload_n 0, 1) := by decide +kernel
theorem dX11_voidEvent_1 : decode cX11_voidEvent 1 = .ok (.iconst 0, 1) := by decide +kernel
theorem dX11_voidEvent_2 : decode cX11_voidEvent 2 = .ok (.putfield 80, 3) := by decide +kernel
theorem dX11_voidEvent_5 : decode cX11_voidEvent 5 = .ok (.aload_n 0, 1) := by decide +kernel
theorem dX11_voidEvent_6 : decode cX11_voidEvent 6 = .ok (.iload_n 1, 1) := by decide +kernel
theorem dX11_voidEvent_7 : decode cX11_voidEvent 7 = .ok (.invokevirtual 126, 3) := by decide +kernel
theorem dX11_voidEvent_10 : decode cX11_voidEvent 10 = .ok (.ifCond .ne 9, 3) := by decide +kernel
theorem dX11_voidEvent_13 : decode cX11_voidEvent 13 = .ok (.aload_n 0, 1) := by decide +kernel
theorem dX11_voidEvent_14 : decode cX11_voidEvent 14 = .ok (.iconst 1, 1) := by decide +kernel
theorem dX11_voidEvent_15 : decode cX11_voidEvent 15 = .ok (.invokevirtual 110, 3) := by decide +kernel
theorem dX11_voidEvent_18 : decode cX11_voidEvent 18 = .ok (.ireturn, 1) := by decide +kernel
theorem dX11_voidEvent_19 : decode cX11_voidEvent 19 = .ok (.aload_n 0, 1) := by decide +kernel
theorem dX11_voidEvent_20 : decode cX11_voidEvent 20 = .ok (.iload_n 1, 1) := by decide +kernel
theorem dX11_voidEvent_21 : decode cX11_voidEvent 21 = .ok (.invokevirtual 187, 3) := by decide +kernel
theorem dX11_voidEvent_24 : decode cX11_voidEvent 24 = .ok (.iload_n 2, 1) := by decide +kernel
theorem dX11_voidEvent_25 : decode cX11_voidEvent 25 = .ok (.iconst 0, 1) := by decide +kernel
theorem dX11_voidEvent_26 : decode cX11_voidEvent 26 = .ok (.aload_n 0, 1) := by decide +kernel
theorem dX11_voidEvent_27 : decode cX11_voidEvent 27 = .ok (.getfield 184, 3) := by decide +kernel
theorem dX11_voidEvent_30 : decode cX11_voidEvent 30 = .ok (.iconst 1, 1) := by decide +kernel
theorem dX11_voidEvent_31 : decode cX11_voidEvent 31 = .ok (.isub, 1) := by decide +kernel
theorem dX11_voidEvent_32 : decode cX11_voidEvent 32 = .ok (.invokestatic 106, 3) := by decide +kernel
theorem dX11_voidEvent_35 : decode cX11_voidEvent 35 = .ok (.ifCond .ne 9, 3) := by decide +kernel
theorem dX11_voidEvent_38 : decode cX11_voidEvent 38 = .ok (.aload_n 0, 1) := by decide +kernel
theorem dX11_voidEvent_39 : decode cX11_voidEvent 39 = .ok (.iconst 2, 1) := by decide +kernel
theorem dX11_voidEvent_40 : decode cX11_voidEvent 40 = .ok (.invokevirtual 110, 3) := by decide +kernel
theorem dX11_voidEvent_43 : decode cX11_voidEvent 43 = .ok (.ireturn, 1) := by decide +kernel
theorem dX11_voidEvent_44 : decode cX11_voidEvent 44 = .ok (.iload_n 3, 1) := by decide +kernel
theorem dX11_voidEvent_45 : decode cX11_voidEvent 45 = .ok (.ifCond .ne 12, 3) := by decide +kernel
theorem dX11_voidEvent_48 : decode cX11_voidEvent 48 = .ok (.aload_n 0, 1) := by decide +kernel
theorem dX11_voidEvent_49 : decode cX11_voidEvent 49 = .ok (.getfield 59, 3) := by decide +kernel
theorem dX11_voidEvent_52 : decode cX11_voidEvent 52 = .ok (.iload_n 2, 1) := by decide +kernel
theorem dX11_voidEvent_53 : decode cX11_voidEvent 53 = .ok (.iaload, 1) := by decide +kernel
theorem dX11_voidEvent_54 : decode cX11_voidEvent 54 = .ok (.goto 36, 3) := by decide +kernel
theorem dX11_voidEvent_57 : decode cX11_voidEvent 57 = .ok (.iload_n 3, 1) := by decide +kernel
theorem dX11_voidEvent_58 : decode cX11_voidEvent 58 = .ok (.iconst 1, 1) := by decide +kernel
theorem dX11_voidEvent_59 : decode cX11_voidEvent 59 = .ok (.if_icmp .ne 12, 3) := by decide +kernel
theorem dX11_voidEvent_62 : decode cX11_voidEvent 62 = .ok (.aload_n 0, 1) := by decide +kernel
theorem dX11_voidEvent_63 : decode cX11_voidEvent 63 = .ok (.getfield 62, 3) := by decide +kernel
theorem dX11_voidEvent_66 : decode cX11_voidEvent 66 = .ok (.iload_n 2, 1) := by decide +kernel
theorem dX11_voidEvent_67 : decode cX11_voidEvent 67 = .ok (.iaload, 1) := by decide +kernel
theorem dX11_voidEvent_68 : decode cX11_voidEvent 68 = .ok (.goto 22, 3) := by decide +kernel
theorem dX11_voidEvent_71 : decode cX11_voidEvent 71 = .ok (.iload_n 3, 1) := by decide +kernel
theorem dX11_voidEvent_72 : decode cX11_voidEvent 72 = .ok (.iconst 2, 1) := by decide +kernel
theorem dX11_voidEvent_73 : decode cX11_voidEvent 73 = .ok (.if_icmp .ne 12, 3) := by decide +kernel
theorem dX11_voidEvent_76 : decode cX11_voidEvent 76 = .ok (.aload_n 0, 1) := by decide +kernel
theorem dX11_voidEvent_77 : decode cX11_voidEvent 77 = .ok (.getfield 65, 3) := by decide +kernel
theorem dX11_voidEvent_80 : decode cX11_voidEvent 80 = .ok (.iload_n 2, 1) := by decide +kernel
theorem dX11_voidEvent_81 : decode cX11_voidEvent 81 = .ok (.iaload, 1) := by decide +kernel
theorem dX11_voidEvent_82 : decode cX11_voidEvent 82 = .ok (.goto 8, 3) := by decide +kernel
theorem dX11_voidEvent_85 : decode cX11_voidEvent 85 = .ok (.aload_n 0, 1) := by decide +kernel
theorem dX11_voidEvent_86 : decode cX11_voidEvent 86 = .ok (.iconst 3, 1) := by decide +kernel
theorem dX11_voidEvent_87 : decode cX11_voidEvent 87 = .ok (.invokevirtual 110, 3) := by decide +kernel
theorem dX11_voidEvent_90 : decode cX11_voidEvent 90 = .ok (.ireturn, 1) := by decide +kernel
theorem dX11_isInstant_0 : decode cX11_isInstant 0 = .ok (.iload_n 0, 1) := by decide +kernel
theorem dX11_isInstant_1 : decode cX11_isInstant 1 = .ok (.sipush (-2000), 3) := by decide +kernel
theorem dX11_isInstant_4 : decode cX11_isInstant 4 = .ok (.ldc 202, 2) := by decide +kernel
theorem dX11_isInstant_6 : decode cX11_isInstant 6 = .ok (.invokestatic 106, 3) := by decide +kernel
theorem dX11_isInstant_9 : decode cX11_isInstant 9 = .ok (.ireturn, 1) := by decide +kernel
theorem dX11_offset_0 : decode cX11_offset 0 = .ok (.aload_n 0, 1) := by decide +kernel
theorem dX11_offset_1 : decode cX11_offset 1 = .ok (.iconst 0, 1) := by decide +kernel
theorem dX11_offset_2 : decode cX11_offset 2 = .ok (.putfield 80, 3) := by decide +kernel
theorem dX11_offset_5 : decode cX11_offset 5 = .ok (.aload_n 0, 1) := by decide +kernel
theorem dX11_offset_6 : decode cX11_offset 6 = .ok (.iload_n 1, 1) := by decide +kernel
theorem dX11_offset_7 : decode cX11_offset 7 = .ok (.invokevirtual 126, 3) := by decide +kernel
theorem dX11_offset_10 : decode cX11_offset 10 = .ok (.ifCond .ne 9, 3) := by decide +kernel
theorem dX11_offset_13 : decode cX11_offset 13 = .ok (.aload_n 0, 1) := by decide +kernel
theorem dX11_offset_14 : decode cX11_offset 14 = .ok (.iconst 1, 1) := by decide +kernel
theorem dX11_offset_15 : decode cX11_offset 15 = .ok (.invokevirtual 110, 3) := by decide +kernel
theorem dX11_offset_18 : decode cX11_offset 18 = .ok (.ireturn, 1) := by decide +kernel
theorem dX11_offset_19 : decode cX11_offset 19 = .ok (.iload_n 2, 1) := by decide +kernel
theorem dX11_offset_20 : decode cX11_offset 20 = .ok (.invokestatic 203, 3) := by decide +kernel
theorem dX11_offset_23 : decode cX11_offset 23 = .ok (.ifCond .eq 12, 3) := by decide +kernel
theorem dX11_offset_26 : decode cX11_offset 26 = .ok (.aload_n 0, 1) := by decide +kernel
theorem dX11_offset_27 : decode cX11_offset 27 = .ok (.iload_n 1, 1) := by decide +kernel
theorem dX11_offset_28 : decode cX11_offset 28 = .ok (.iload_n 2, 1) := by decide +kernel
theorem dX11_offset_29 : decode cX11_offset 29 = .ok (.invokevirtual 206, 3) := by decide +kernel
theorem dX11_offset_32 : decode cX11_offset 32 = .ok (.goto 8, 3) := by decide +kernel
theorem dX11_offset_35 : decode cX11_offset 35 = .ok (.aload_n 0, 1) := by decide +kernel
theorem dX11_offset_36 : decode cX11_offset 36 = .ok (.iconst 2, 1) := by decide +kernel
theorem dX11_offset_37 : decode cX11_offset 37 = .ok (.invokevirtual 110, 3) := by decide +kernel
theorem dX11_offset_40 : decode cX11_offset 40 = .ok (.ireturn, 1) := by decide +kernel
theorem dX11_offsetAgain_0 : decode cX11_offsetAgain 0 = .ok (.aload_n 0, 1) := by decide +kernel
theorem dX11_offsetAgain_1 : decode cX11_offsetAgain 1 = .ok (.iconst 0, 1) := by decide +kernel
theorem dX11_offsetAgain_2 : decode cX11_offsetAgain 2 = .ok (.putfield 80, 3) := by decide +kernel
theorem dX11_offsetAgain_5 : decode cX11_offsetAgain 5 = .ok (.aload_n 0, 1) := by decide +kernel
theorem dX11_offsetAgain_6 : decode cX11_offsetAgain 6 = .ok (.iload_n 1, 1) := by decide +kernel
theorem dX11_offsetAgain_7 : decode cX11_offsetAgain 7 = .ok (.invokevirtual 126, 3) := by decide +kernel
theorem dX11_offsetAgain_10 : decode cX11_offsetAgain 10 = .ok (.ifCond .ne 9, 3) := by decide +kernel
theorem dX11_offsetAgain_13 : decode cX11_offsetAgain 13 = .ok (.aload_n 0, 1) := by decide +kernel
theorem dX11_offsetAgain_14 : decode cX11_offsetAgain 14 = .ok (.iconst 1, 1) := by decide +kernel
theorem dX11_offsetAgain_15 : decode cX11_offsetAgain 15 = .ok (.invokevirtual 110, 3) := by decide +kernel
theorem dX11_offsetAgain_18 : decode cX11_offsetAgain 18 = .ok (.ireturn, 1) := by decide +kernel
theorem dX11_offsetAgain_19 : decode cX11_offsetAgain 19 = .ok (.iload_n 2, 1) := by decide +kernel
theorem dX11_offsetAgain_20 : decode cX11_offsetAgain 20 = .ok (.invokestatic 203, 3) := by decide +kernel
theorem dX11_offsetAgain_23 : decode cX11_offsetAgain 23 = .ok (.ifCond .eq 12, 3) := by decide +kernel
theorem dX11_offsetAgain_26 : decode cX11_offsetAgain 26 = .ok (.aload_n 0, 1) := by decide +kernel
theorem dX11_offsetAgain_27 : decode cX11_offsetAgain 27 = .ok (.iload_n 1, 1) := by decide +kernel
theorem dX11_offsetAgain_28 : decode cX11_offsetAgain 28 = .ok (.iload_n 2, 1) := by decide +kernel
theorem dX11_offsetAgain_29 : decode cX11_offsetAgain 29 = .ok (.invokevirtual 206, 3) := by decide +kernel
theorem dX11_offsetAgain_32 : decode cX11_offsetAgain 32 = .ok (.goto 8, 3) := by decide +kernel
theorem dX11_offsetAgain_35 : decode cX11_offsetAgain 35 = .ok (.aload_n 0, 1) := by decide +kernel
theorem dX11_offsetAgain_36 : decode cX11_offsetAgain 36 = .ok (.iconst 2, 1) := by decide +kernel
theorem dX11_offsetAgain_37 : decode cX11_offsetAgain 37 = .ok (.invokevirtual 110, 3) := by decide +kernel
theorem dX11_offsetAgain_40 : decode cX11_offsetAgain 40 = .ok (.ireturn, 1) := by decide +kernel
theorem dX11_isLocal_0 : decode cX11_isLocal 0 = .ok (.iload_n 0, 1) := by decide +kernel
theorem dX11_isLocal_1 : decode cX11_isLocal 1 = .ok (.iconst 0, 1) := by decide +kernel
theorem dX11_isLocal_2 : decode cX11_isLocal 2 = .ok (.ldc 209, 2) := by decide +kernel
theorem dX11_isLocal_4 : decode cX11_isLocal 4 = .ok (.invokestatic 106, 3) := by decide +kernel
theorem dX11_isLocal_7 : decode cX11_isLocal 7 = .ok (.ireturn, 1) := by decide +kernel
theorem dX11_finds_0 : decode cX11_finds 0 = .ok (.aload_n 0, 1) := by decide +kernel
theorem dX11_finds_1 : decode cX11_finds 1 = .ok (.iload_n 1, 1) := by decide +kernel
theorem dX11_finds_2 : decode cX11_finds 2 = .ok (.invokevirtual 187, 3) := by decide +kernel
theorem dX11_finds_5 : decode cX11_finds 5 = .ok (.aload_n 0, 1) := by decide +kernel
theorem dX11_finds_6 : decode cX11_finds 6 = .ok (.iconst 0, 1) := by decide +kernel
theorem dX11_finds_7 : decode cX11_finds 7 = .ok (.putfield 210, 3) := by decide +kernel
theorem dX11_finds_10 : decode cX11_finds 10 = .ok (.iconst 0, 1) := by decide +kernel
theorem dX11_finds_11 : decode cX11_finds 11 = .ok (.istore_n 3, 1) := by decide +kernel
theorem dX11_finds_12 : decode cX11_finds 12 = .ok (.iload_n 3, 1) := by decide +kernel
theorem dX11_finds_13 : decode cX11_finds 13 = .ok (.aload_n 0, 1) := by decide +kernel
theorem dX11_finds_14 : decode cX11_finds 14 = .ok (.getfield 181, 3) := by decide +kernel
theorem dX11_finds_17 : decode cX11_finds 17 = .ok (.if_icmp .gt 87, 3) := by decide +kernel
theorem dX11_finds_20 : decode cX11_finds 20 = .ok (.iload_n 2, 1) := by decide +kernel
theorem dX11_finds_21 : decode cX11_finds 21 = .ok (.aload_n 0, 1) := by decide +kernel
theorem dX11_finds_22 : decode cX11_finds 22 = .ok (.iload_n 1, 1) := by decide +kernel
theorem dX11_finds_23 : decode cX11_finds 23 = .ok (.iload_n 3, 1) := by decide +kernel
theorem dX11_finds_24 : decode cX11_finds 24 = .ok (.invokevirtual 191, 3) := by decide +kernel
theorem dX11_finds_27 : decode cX11_finds 27 = .ok (.isub, 1) := by decide +kernel
theorem dX11_finds_28 : decode cX11_finds 28 = .ok (.istore 4, 2) := by decide +kernel
theorem dX11_finds_30 : decode cX11_finds 30 = .ok (.iload_n 3, 1) := by decide +kernel
theorem dX11_finds_31 : decode cX11_finds 31 = .ok (.ifCond .le 16, 3) := by decide +kernel
theorem dX11_finds_34 : decode cX11_finds 34 = .ok (.iload 4, 2) := by decide +kernel
theorem dX11_finds_36 : decode cX11_finds 36 = .ok (.aload_n 0, 1) := by decide +kernel
theorem dX11_finds_37 : decode cX11_finds 37 = .ok (.getfield 44, 3) := by decide +kernel
theorem dX11_finds_40 : decode cX11_finds 40 = .ok (.iload_n 3, 1) := by decide +kernel
theorem dX11_finds_41 : decode cX11_finds 41 = .ok (.iconst 1, 1) := by decide +kernel
theorem dX11_finds_42 : decode cX11_finds 42 = .ok (.isub, 1) := by decide +kernel
theorem dX11_finds_43 : decode cX11_finds 43 = .ok (.iaload, 1) := by decide +kernel
theorem dX11_finds_44 : decode cX11_finds 44 = .ok (.if_icmp .lt 54, 3) := by decide +kernel
theorem dX11_finds_47 : decode cX11_finds 47 = .ok (.iload_n 3, 1) := by decide +kernel
theorem dX11_finds_48 : decode cX11_finds 48 = .ok (.aload_n 0, 1) := by decide +kernel
theorem dX11_finds_49 : decode cX11_finds 49 = .ok (.getfield 181, 3) := by decide +kernel
theorem dX11_finds_52 : decode cX11_finds 52 = .ok (.if_icmp .ge 17, 3) := by decide +kernel
theorem dX11_finds_55 : decode cX11_finds 55 = .ok (.iload 4, 2) := by decide +kernel
theorem dX11_finds_57 : decode cX11_finds 57 = .ok (.aload_n 0, 1) := by decide +kernel
theorem dX11_finds_58 : decode cX11_finds 58 = .ok (.getfield 44, 3) := by decide +kernel
theorem dX11_finds_61 : decode cX11_finds 61 = .ok (.iload_n 3, 1) := by decide +kernel
theorem dX11_finds_62 : decode cX11_finds 62 = .ok (.iaload, 1) := by decide +kernel
theorem dX11_finds_63 : decode cX11_finds 63 = .ok (.if_icmp .lt 6, 3) := by decide +kernel
theorem dX11_finds_66 : decode cX11_finds 66 = .ok (.goto 32, 3) := by decide +kernel
theorem dX11_finds_69 : decode cX11_finds 69 = .ok (.aload_n 0, 1) := by decide +kernel
theorem dX11_finds_70 : decode cX11_finds 70 = .ok (.getfield 210, 3) := by decide +kernel
theorem dX11_finds_73 : decode cX11_finds 73 = .ok (.ifCond .ne 9, 3) := by decide +kernel
theorem dX11_finds_76 : decode cX11_finds 76 = .ok (.aload_n 0, 1) := by decide +kernel
theorem dX11_finds_77 : decode cX11_finds 77 = .ok (.iload 4, 2) := by decide +kernel
theorem dX11_finds_79 : decode cX11_finds 79 = .ok (.putfield 213, 3) := by decide +kernel
theorem dX11_finds_82 : decode cX11_finds 82 = .ok (.aload_n 0, 1) := by decide +kernel
theorem dX11_finds_83 : decode cX11_finds 83 = .ok (.iload 4, 2) := by decide +kernel
theorem dX11_finds_85 : decode cX11_finds 85 = .ok (.putfield 216, 3) := by decide +kernel
theorem dX11_finds_88 : decode cX11_finds 88 = .ok (.aload_n 0, 1) := by decide +kernel
theorem dX11_finds_89 : decode cX11_finds 89 = .ok (.dup, 1) := by decide +kernel
theorem dX11_finds_90 : decode cX11_finds 90 = .ok (.getfield 210, 3) := by decide +kernel
theorem dX11_finds_93 : decode cX11_finds 93 = .ok (.iconst 1, 1) := by decide +kernel
theorem dX11_finds_94 : decode cX11_finds 94 = .ok (.iadd, 1) := by decide +kernel
theorem dX11_finds_95 : decode cX11_finds 95 = .ok (.putfield 210, 3) := by decide +kernel
theorem dX11_finds_98 : decode cX11_finds 98 = .ok (.iinc 3 1, 3) := by decide +kernel
theorem dX11_finds_101 : decode cX11_finds 101 = .ok (.goto (-89), 3) := by decide +kernel
theorem dX11_finds_104 : decode cX11_finds 104 = .ok (.return_, 1) := by decide +kernel
theorem dX11_causeOf_0 : decode cX11_causeOf 0 = .ok (.aload_n 0, 1) := by decide +kernel
theorem dX11_causeOf_1 : decode cX11_causeOf 1 = .ok (.iload_n 1, 1) := by decide +kernel
theorem dX11_causeOf_2 : decode cX11_causeOf 2 = .ok (.iload_n 2, 1) := by decide +kernel
theorem dX11_causeOf_3 : decode cX11_causeOf 3 = .ok (.invokevirtual 219, 3) := by decide +kernel
theorem dX11_causeOf_6 : decode cX11_causeOf 6 = .ok (.aload_n 0, 1) := by decide +kernel
theorem dX11_causeOf_7 : decode cX11_causeOf 7 = .ok (.getfield 210, 3) := by decide +kernel
theorem dX11_causeOf_10 : decode cX11_causeOf 10 = .ok (.iconst 1, 1) := by decide +kernel
theorem dX11_causeOf_11 : decode cX11_causeOf 11 = .ok (.if_icmp .ne 5, 3) := by decide +kernel
theorem dX11_causeOf_14 : decode cX11_causeOf 14 = .ok (.iconst (-1), 1) := by decide +kernel
theorem dX11_causeOf_15 : decode cX11_causeOf 15 = .ok (.ireturn, 1) := by decide +kernel
theorem dX11_causeOf_16 : decode cX11_causeOf 16 = .ok (.iconst 0, 1) := by decide +kernel
theorem dX11_causeOf_17 : decode cX11_causeOf 17 = .ok (.istore_n 3, 1) := by decide +kernel
theorem dX11_causeOf_18 : decode cX11_causeOf 18 = .ok (.iload_n 3, 1) := by decide +kernel
theorem dX11_causeOf_19 : decode cX11_causeOf 19 = .ok (.aload_n 0, 1) := by decide +kernel
theorem dX11_causeOf_20 : decode cX11_causeOf 20 = .ok (.getfield 181, 3) := by decide +kernel
theorem dX11_causeOf_23 : decode cX11_causeOf 23 = .ok (.if_icmp .ge 98, 3) := by decide +kernel
theorem dX11_causeOf_26 : decode cX11_causeOf 26 = .ok (.aload_n 0, 1) := by decide +kernel
theorem dX11_causeOf_27 : decode cX11_causeOf 27 = .ok (.getfield 210, 3) := by decide +kernel
theorem dX11_causeOf_30 : decode cX11_causeOf 30 = .ok (.ifCond .ne 45, 3) := by decide +kernel
theorem dX11_causeOf_33 : decode cX11_causeOf 33 = .ok (.aload_n 0, 1) := by decide +kernel
theorem dX11_causeOf_34 : decode cX11_causeOf 34 = .ok (.getfield 44, 3) := by decide +kernel
theorem dX11_causeOf_37 : decode cX11_causeOf 37 = .ok (.iload_n 3, 1) := by decide +kernel
theorem dX11_causeOf_38 : decode cX11_causeOf 38 = .ok (.iaload, 1) := by decide +kernel
theorem dX11_causeOf_39 : decode cX11_causeOf 39 = .ok (.aload_n 0, 1) := by decide +kernel
theorem dX11_causeOf_40 : decode cX11_causeOf 40 = .ok (.getfield 47, 3) := by decide +kernel
theorem dX11_causeOf_43 : decode cX11_causeOf 43 = .ok (.iload_n 3, 1) := by decide +kernel
theorem dX11_causeOf_44 : decode cX11_causeOf 44 = .ok (.iaload, 1) := by decide +kernel
theorem dX11_causeOf_45 : decode cX11_causeOf 45 = .ok (.iadd, 1) := by decide +kernel
theorem dX11_causeOf_46 : decode cX11_causeOf 46 = .ok (.iload_n 2, 1) := by decide +kernel
theorem dX11_causeOf_47 : decode cX11_causeOf 47 = .ok (.if_icmp .gt 24, 3) := by decide +kernel
theorem dX11_causeOf_50 : decode cX11_causeOf 50 = .ok (.aload_n 0, 1) := by decide +kernel
theorem dX11_causeOf_51 : decode cX11_causeOf 51 = .ok (.getfield 44, 3) := by decide +kernel
theorem dX11_causeOf_54 : decode cX11_causeOf 54 = .ok (.iload_n 3, 1) := by decide +kernel
theorem dX11_causeOf_55 : decode cX11_causeOf 55 = .ok (.iaload, 1) := by decide +kernel
theorem dX11_causeOf_56 : decode cX11_causeOf 56 = .ok (.aload_n 0, 1) := by decide +kernel
theorem dX11_causeOf_57 : decode cX11_causeOf 57 = .ok (.getfield 50, 3) := by decide +kernel
theorem dX11_causeOf_60 : decode cX11_causeOf 60 = .ok (.iload_n 3, 1) := by decide +kernel
theorem dX11_causeOf_61 : decode cX11_causeOf 61 = .ok (.iaload, 1) := by decide +kernel
theorem dX11_causeOf_62 : decode cX11_causeOf 62 = .ok (.iadd, 1) := by decide +kernel
theorem dX11_causeOf_63 : decode cX11_causeOf 63 = .ok (.iload_n 2, 1) := by decide +kernel
theorem dX11_causeOf_64 : decode cX11_causeOf 64 = .ok (.if_icmp .le 7, 3) := by decide +kernel
theorem dX11_causeOf_67 : decode cX11_causeOf 67 = .ok (.iconst 1, 1) := by decide +kernel
theorem dX11_causeOf_68 : decode cX11_causeOf 68 = .ok (.goto 38, 3) := by decide +kernel
theorem dX11_causeOf_71 : decode cX11_causeOf 71 = .ok (.iconst 0, 1) := by decide +kernel
theorem dX11_causeOf_72 : decode cX11_causeOf 72 = .ok (.goto 34, 3) := by decide +kernel
theorem dX11_causeOf_75 : decode cX11_causeOf 75 = .ok (.aload_n 0, 1) := by decide +kernel
theorem dX11_causeOf_76 : decode cX11_causeOf 76 = .ok (.getfield 44, 3) := by decide +kernel
theorem dX11_causeOf_79 : decode cX11_causeOf 79 = .ok (.iload_n 3, 1) := by decide +kernel
theorem dX11_causeOf_80 : decode cX11_causeOf 80 = .ok (.iaload, 1) := by decide +kernel
theorem dX11_causeOf_81 : decode cX11_causeOf 81 = .ok (.aload_n 0, 1) := by decide +kernel
theorem dX11_causeOf_82 : decode cX11_causeOf 82 = .ok (.getfield 213, 3) := by decide +kernel
theorem dX11_causeOf_85 : decode cX11_causeOf 85 = .ok (.if_icmp .le 20, 3) := by decide +kernel
theorem dX11_causeOf_88 : decode cX11_causeOf 88 = .ok (.aload_n 0, 1) := by decide +kernel
theorem dX11_causeOf_89 : decode cX11_causeOf 89 = .ok (.getfield 44, 3) := by decide +kernel
theorem dX11_causeOf_92 : decode cX11_causeOf 92 = .ok (.iload_n 3, 1) := by decide +kernel
theorem dX11_causeOf_93 : decode cX11_causeOf 93 = .ok (.iaload, 1) := by decide +kernel
theorem dX11_causeOf_94 : decode cX11_causeOf 94 = .ok (.aload_n 0, 1) := by decide +kernel
theorem dX11_causeOf_95 : decode cX11_causeOf 95 = .ok (.getfield 216, 3) := by decide +kernel
theorem dX11_causeOf_98 : decode cX11_causeOf 98 = .ok (.if_icmp .gt 7, 3) := by decide +kernel
theorem dX11_causeOf_101 : decode cX11_causeOf 101 = .ok (.iconst 1, 1) := by decide +kernel
theorem dX11_causeOf_102 : decode cX11_causeOf 102 = .ok (.goto 4, 3) := by decide +kernel
theorem dX11_causeOf_105 : decode cX11_causeOf 105 = .ok (.iconst 0, 1) := by decide +kernel
theorem dX11_causeOf_106 : decode cX11_causeOf 106 = .ok (.istore 4, 2) := by decide +kernel
theorem dX11_causeOf_108 : decode cX11_causeOf 108 = .ok (.iload 4, 2) := by decide +kernel
theorem dX11_causeOf_110 : decode cX11_causeOf 110 = .ok (.ifCond .eq 5, 3) := by decide +kernel
theorem dX11_causeOf_113 : decode cX11_causeOf 113 = .ok (.iload_n 3, 1) := by decide +kernel
theorem dX11_causeOf_114 : decode cX11_causeOf 114 = .ok (.ireturn, 1) := by decide +kernel
theorem dX11_causeOf_115 : decode cX11_causeOf 115 = .ok (.iinc 3 1, 3) := by decide +kernel
theorem dX11_causeOf_118 : decode cX11_causeOf 118 = .ok (.goto (-100), 3) := by decide +kernel
theorem dX11_causeOf_121 : decode cX11_causeOf 121 = .ok (.iconst (-1), 1) := by decide +kernel
theorem dX11_causeOf_122 : decode cX11_causeOf 122 = .ok (.ireturn, 1) := by decide +kernel
theorem dX11_tells_0 : decode cX11_tells 0 = .ok (.aload_n 0, 1) := by decide +kernel
theorem dX11_tells_1 : decode cX11_tells 1 = .ok (.iload_n 1, 1) := by decide +kernel
theorem dX11_tells_2 : decode cX11_tells 2 = .ok (.iload_n 2, 1) := by decide +kernel
theorem dX11_tells_3 : decode cX11_tells 3 = .ok (.invokevirtual 222, 3) := by decide +kernel
theorem dX11_tells_6 : decode cX11_tells 6 = .ok (.istore 4, 2) := by decide +kernel
theorem dX11_tells_8 : decode cX11_tells 8 = .ok (.iload_n 3, 1) := by decide +kernel
theorem dX11_tells_9 : decode cX11_tells 9 = .ok (.iconst 3, 1) := by decide +kernel
theorem dX11_tells_10 : decode cX11_tells 10 = .ok (.if_icmp .ne 13, 3) := by decide +kernel
theorem dX11_tells_13 : decode cX11_tells 13 = .ok (.aload_n 0, 1) := by decide +kernel
theorem dX11_tells_14 : decode cX11_tells 14 = .ok (.getfield 210, 3) := by decide +kernel
theorem dX11_tells_17 : decode cX11_tells 17 = .ok (.iconst 1, 1) := by decide +kernel
theorem dX11_tells_18 : decode cX11_tells 18 = .ok (.if_icmp .eq 5, 3) := by decide +kernel
theorem dX11_tells_21 : decode cX11_tells 21 = .ok (.iconst 0, 1) := by decide +kernel
theorem dX11_tells_22 : decode cX11_tells 22 = .ok (.ireturn, 1) := by decide +kernel
theorem dX11_tells_23 : decode cX11_tells 23 = .ok (.aload_n 0, 1) := by decide +kernel
theorem dX11_tells_24 : decode cX11_tells 24 = .ok (.getfield 210, 3) := by decide +kernel
theorem dX11_tells_27 : decode cX11_tells 27 = .ok (.ifCond .ne 50, 3) := by decide +kernel
theorem dX11_tells_30 : decode cX11_tells 30 = .ok (.aload_n 0, 1) := by decide +kernel
theorem dX11_tells_31 : decode cX11_tells 31 = .ok (.iload_n 3, 1) := by decide +kernel
theorem dX11_tells_32 : decode cX11_tells 32 = .ok (.ifCond .ne 15, 3) := by decide +kernel
theorem dX11_tells_35 : decode cX11_tells 35 = .ok (.iload_n 2, 1) := by decide +kernel
theorem dX11_tells_36 : decode cX11_tells 36 = .ok (.aload_n 0, 1) := by decide +kernel
theorem dX11_tells_37 : decode cX11_tells 37 = .ok (.getfield 47, 3) := by decide +kernel
theorem dX11_tells_40 : decode cX11_tells 40 = .ok (.iload 4, 2) := by decide +kernel
theorem dX11_tells_42 : decode cX11_tells 42 = .ok (.iaload, 1) := by decide +kernel
theorem dX11_tells_43 : decode cX11_tells 43 = .ok (.isub, 1) := by decide +kernel
theorem dX11_tells_44 : decode cX11_tells 44 = .ok (.goto 27, 3) := by decide +kernel
theorem dX11_tells_47 : decode cX11_tells 47 = .ok (.iload_n 3, 1) := by decide +kernel
theorem dX11_tells_48 : decode cX11_tells 48 = .ok (.iconst 1, 1) := by decide +kernel
theorem dX11_tells_49 : decode cX11_tells 49 = .ok (.if_icmp .ne 15, 3) := by decide +kernel
theorem dX11_tells_52 : decode cX11_tells 52 = .ok (.iload_n 2, 1) := by decide +kernel
theorem dX11_tells_53 : decode cX11_tells 53 = .ok (.aload_n 0, 1) := by decide +kernel
theorem dX11_tells_54 : decode cX11_tells 54 = .ok (.getfield 50, 3) := by decide +kernel
theorem dX11_tells_57 : decode cX11_tells 57 = .ok (.iload 4, 2) := by decide +kernel
theorem dX11_tells_59 : decode cX11_tells 59 = .ok (.iaload, 1) := by decide +kernel
theorem dX11_tells_60 : decode cX11_tells 60 = .ok (.isub, 1) := by decide +kernel
theorem dX11_tells_61 : decode cX11_tells 61 = .ok (.goto 10, 3) := by decide +kernel
theorem dX11_tells_64 : decode cX11_tells 64 = .ok (.aload_n 0, 1) := by decide +kernel
theorem dX11_tells_65 : decode cX11_tells 65 = .ok (.getfield 44, 3) := by decide +kernel
theorem dX11_tells_68 : decode cX11_tells 68 = .ok (.iload 4, 2) := by decide +kernel
theorem dX11_tells_70 : decode cX11_tells 70 = .ok (.iaload, 1) := by decide +kernel
theorem dX11_tells_71 : decode cX11_tells 71 = .ok (.putfield 213, 3) := by decide +kernel
theorem dX11_tells_74 : decode cX11_tells 74 = .ok (.goto 16, 3) := by decide +kernel
theorem dX11_tells_77 : decode cX11_tells 77 = .ok (.iload_n 3, 1) := by decide +kernel
theorem dX11_tells_78 : decode cX11_tells 78 = .ok (.iconst 1, 1) := by decide +kernel
theorem dX11_tells_79 : decode cX11_tells 79 = .ok (.if_icmp .ne 11, 3) := by decide +kernel
theorem dX11_tells_82 : decode cX11_tells 82 = .ok (.aload_n 0, 1) := by decide +kernel
theorem dX11_tells_83 : decode cX11_tells 83 = .ok (.aload_n 0, 1) := by decide +kernel
theorem dX11_tells_84 : decode cX11_tells 84 = .ok (.getfield 216, 3) := by decide +kernel
theorem dX11_tells_87 : decode cX11_tells 87 = .ok (.putfield 213, 3) := by decide +kernel
theorem dX11_tells_90 : decode cX11_tells 90 = .ok (.iconst 1, 1) := by decide +kernel
theorem dX11_tells_91 : decode cX11_tells 91 = .ok (.ireturn, 1) := by decide +kernel
theorem dX11_toLocal_0 : decode cX11_toLocal 0 = .ok (.aload_n 0, 1) := by decide +kernel
theorem dX11_toLocal_1 : decode cX11_toLocal 1 = .ok (.iconst 0, 1) := by decide +kernel
theorem dX11_toLocal_2 : decode cX11_toLocal 2 = .ok (.putfield 80, 3) := by decide +kernel
theorem dX11_toLocal_5 : decode cX11_toLocal 5 = .ok (.aload_n 0, 1) := by decide +kernel
theorem dX11_toLocal_6 : decode cX11_toLocal 6 = .ok (.iload_n 1, 1) := by decide +kernel
theorem dX11_toLocal_7 : decode cX11_toLocal 7 = .ok (.invokevirtual 126, 3) := by decide +kernel
theorem dX11_toLocal_10 : decode cX11_toLocal 10 = .ok (.ifCond .ne 9, 3) := by decide +kernel
theorem dX11_toLocal_13 : decode cX11_toLocal 13 = .ok (.aload_n 0, 1) := by decide +kernel
theorem dX11_toLocal_14 : decode cX11_toLocal 14 = .ok (.iconst 1, 1) := by decide +kernel
theorem dX11_toLocal_15 : decode cX11_toLocal 15 = .ok (.invokevirtual 110, 3) := by decide +kernel
theorem dX11_toLocal_18 : decode cX11_toLocal 18 = .ok (.ireturn, 1) := by decide +kernel
theorem dX11_toLocal_19 : decode cX11_toLocal 19 = .ok (.iload_n 2, 1) := by decide +kernel
theorem dX11_toLocal_20 : decode cX11_toLocal 20 = .ok (.invokestatic 203, 3) := by decide +kernel
theorem dX11_toLocal_23 : decode cX11_toLocal 23 = .ok (.ifCond .eq 14, 3) := by decide +kernel
theorem dX11_toLocal_26 : decode cX11_toLocal 26 = .ok (.iload_n 2, 1) := by decide +kernel
theorem dX11_toLocal_27 : decode cX11_toLocal 27 = .ok (.aload_n 0, 1) := by decide +kernel
theorem dX11_toLocal_28 : decode cX11_toLocal 28 = .ok (.iload_n 1, 1) := by decide +kernel
theorem dX11_toLocal_29 : decode cX11_toLocal 29 = .ok (.iload_n 2, 1) := by decide +kernel
theorem dX11_toLocal_30 : decode cX11_toLocal 30 = .ok (.invokevirtual 206, 3) := by decide +kernel
theorem dX11_toLocal_33 : decode cX11_toLocal 33 = .ok (.iadd, 1) := by decide +kernel
theorem dX11_toLocal_34 : decode cX11_toLocal 34 = .ok (.goto 8, 3) := by decide +kernel
theorem dX11_toLocal_37 : decode cX11_toLocal 37 = .ok (.aload_n 0, 1) := by decide +kernel
theorem dX11_toLocal_38 : decode cX11_toLocal 38 = .ok (.iconst 2, 1) := by decide +kernel
theorem dX11_toLocal_39 : decode cX11_toLocal 39 = .ok (.invokevirtual 110, 3) := by decide +kernel
theorem dX11_toLocal_42 : decode cX11_toLocal 42 = .ok (.ireturn, 1) := by decide +kernel
theorem dX11_instants_0 : decode cX11_instants 0 = .ok (.aload_n 0, 1) := by decide +kernel
theorem dX11_instants_1 : decode cX11_instants 1 = .ok (.iconst 0, 1) := by decide +kernel
theorem dX11_instants_2 : decode cX11_instants 2 = .ok (.putfield 80, 3) := by decide +kernel
theorem dX11_instants_5 : decode cX11_instants 5 = .ok (.aload_n 0, 1) := by decide +kernel
theorem dX11_instants_6 : decode cX11_instants 6 = .ok (.iload_n 1, 1) := by decide +kernel
theorem dX11_instants_7 : decode cX11_instants 7 = .ok (.invokevirtual 126, 3) := by decide +kernel
theorem dX11_instants_10 : decode cX11_instants 10 = .ok (.ifCond .ne 9, 3) := by decide +kernel
theorem dX11_instants_13 : decode cX11_instants 13 = .ok (.aload_n 0, 1) := by decide +kernel
theorem dX11_instants_14 : decode cX11_instants 14 = .ok (.iconst 1, 1) := by decide +kernel
theorem dX11_instants_15 : decode cX11_instants 15 = .ok (.invokevirtual 110, 3) := by decide +kernel
theorem dX11_instants_18 : decode cX11_instants 18 = .ok (.ireturn, 1) := by decide +kernel
theorem dX11_instants_19 : decode cX11_instants 19 = .ok (.iload_n 2, 1) := by decide +kernel
theorem dX11_instants_20 : decode cX11_instants 20 = .ok (.invokestatic 225, 3) := by decide +kernel
theorem dX11_instants_23 : decode cX11_instants 23 = .ok (.ifCond .ne 9, 3) := by decide +kernel
theorem dX11_instants_26 : decode cX11_instants 26 = .ok (.aload_n 0, 1) := by decide +kernel
theorem dX11_instants_27 : decode cX11_instants 27 = .ok (.iconst 2, 1) := by decide +kernel
theorem dX11_instants_28 : decode cX11_instants 28 = .ok (.invokevirtual 110, 3) := by decide +kernel
theorem dX11_instants_31 : decode cX11_instants 31 = .ok (.ireturn, 1) := by decide +kernel
theorem dX11_instants_32 : decode cX11_instants 32 = .ok (.aload_n 0, 1) := by decide +kernel
theorem dX11_instants_33 : decode cX11_instants 33 = .ok (.iload_n 1, 1) := by decide +kernel
theorem dX11_instants_34 : decode cX11_instants 34 = .ok (.iload_n 2, 1) := by decide +kernel
theorem dX11_instants_35 : decode cX11_instants 35 = .ok (.invokevirtual 219, 3) := by decide +kernel
theorem dX11_instants_38 : decode cX11_instants 38 = .ok (.aload_n 0, 1) := by decide +kernel
theorem dX11_instants_39 : decode cX11_instants 39 = .ok (.getfield 210, 3) := by decide +kernel
theorem dX11_instants_42 : decode cX11_instants 42 = .ok (.ireturn, 1) := by decide +kernel
theorem dX11_instantsAgain_0 : decode cX11_instantsAgain 0 = .ok (.aload_n 0, 1) := by decide +kernel
theorem dX11_instantsAgain_1 : decode cX11_instantsAgain 1 = .ok (.iconst 0, 1) := by decide +kernel
theorem dX11_instantsAgain_2 : decode cX11_instantsAgain 2 = .ok (.putfield 80, 3) := by decide +kernel
theorem dX11_instantsAgain_5 : decode cX11_instantsAgain 5 = .ok (.aload_n 0, 1) := by decide +kernel
theorem dX11_instantsAgain_6 : decode cX11_instantsAgain 6 = .ok (.iload_n 1, 1) := by decide +kernel
theorem dX11_instantsAgain_7 : decode cX11_instantsAgain 7 = .ok (.invokevirtual 126, 3) := by decide +kernel
theorem dX11_instantsAgain_10 : decode cX11_instantsAgain 10 = .ok (.ifCond .ne 9, 3) := by decide +kernel
theorem dX11_instantsAgain_13 : decode cX11_instantsAgain 13 = .ok (.aload_n 0, 1) := by decide +kernel
theorem dX11_instantsAgain_14 : decode cX11_instantsAgain 14 = .ok (.iconst 1, 1) := by decide +kernel
theorem dX11_instantsAgain_15 : decode cX11_instantsAgain 15 = .ok (.invokevirtual 110, 3) := by decide +kernel
theorem dX11_instantsAgain_18 : decode cX11_instantsAgain 18 = .ok (.ireturn, 1) := by decide +kernel
theorem dX11_instantsAgain_19 : decode cX11_instantsAgain 19 = .ok (.iload_n 2, 1) := by decide +kernel
theorem dX11_instantsAgain_20 : decode cX11_instantsAgain 20 = .ok (.invokestatic 225, 3) := by decide +kernel
theorem dX11_instantsAgain_23 : decode cX11_instantsAgain 23 = .ok (.ifCond .ne 9, 3) := by decide +kernel
theorem dX11_instantsAgain_26 : decode cX11_instantsAgain 26 = .ok (.aload_n 0, 1) := by decide +kernel
theorem dX11_instantsAgain_27 : decode cX11_instantsAgain 27 = .ok (.iconst 2, 1) := by decide +kernel
theorem dX11_instantsAgain_28 : decode cX11_instantsAgain 28 = .ok (.invokevirtual 110, 3) := by decide +kernel
theorem dX11_instantsAgain_31 : decode cX11_instantsAgain 31 = .ok (.ireturn, 1) := by decide +kernel
theorem dX11_instantsAgain_32 : decode cX11_instantsAgain 32 = .ok (.aload_n 0, 1) := by decide +kernel
theorem dX11_instantsAgain_33 : decode cX11_instantsAgain 33 = .ok (.iload_n 1, 1) := by decide +kernel
theorem dX11_instantsAgain_34 : decode cX11_instantsAgain 34 = .ok (.iload_n 2, 1) := by decide +kernel
theorem dX11_instantsAgain_35 : decode cX11_instantsAgain 35 = .ok (.invokevirtual 219, 3) := by decide +kernel
theorem dX11_instantsAgain_38 : decode cX11_instantsAgain 38 = .ok (.aload_n 0, 1) := by decide +kernel
theorem dX11_instantsAgain_39 : decode cX11_instantsAgain 39 = .ok (.getfield 210, 3) := by decide +kernel
theorem dX11_instantsAgain_42 : decode cX11_instantsAgain 42 = .ok (.ireturn, 1) := by decide +kernel
theorem dX11_cause_0 : decode cX11_cause 0 = .ok (.aload_n 0, 1) := by decide +kernel
theorem dX11_cause_1 : decode cX11_cause 1 = .ok (.iconst 0, 1) := by decide +kernel
theorem dX11_cause_2 : decode cX11_cause 2 = .ok (.putfield 80, 3) := by decide +kernel
theorem dX11_cause_5 : decode cX11_cause 5 = .ok (.aload_n 0, 1) := by decide +kernel
theorem dX11_cause_6 : decode cX11_cause 6 = .ok (.iload_n 1, 1) := by decide +kernel
theorem dX11_cause_7 : decode cX11_cause 7 = .ok (.invokevirtual 126, 3) := by decide +kernel
theorem dX11_cause_10 : decode cX11_cause 10 = .ok (.ifCond .ne 9, 3) := by decide +kernel
theorem dX11_cause_13 : decode cX11_cause 13 = .ok (.aload_n 0, 1) := by decide +kernel
theorem dX11_cause_14 : decode cX11_cause 14 = .ok (.iconst 1, 1) := by decide +kernel
theorem dX11_cause_15 : decode cX11_cause 15 = .ok (.invokevirtual 110, 3) := by decide +kernel
theorem dX11_cause_18 : decode cX11_cause 18 = .ok (.ireturn, 1) := by decide +kernel
theorem dX11_cause_19 : decode cX11_cause 19 = .ok (.iload_n 2, 1) := by decide +kernel
theorem dX11_cause_20 : decode cX11_cause 20 = .ok (.invokestatic 225, 3) := by decide +kernel
theorem dX11_cause_23 : decode cX11_cause 23 = .ok (.ifCond .eq 12, 3) := by decide +kernel
theorem dX11_cause_26 : decode cX11_cause 26 = .ok (.aload_n 0, 1) := by decide +kernel
theorem dX11_cause_27 : decode cX11_cause 27 = .ok (.iload_n 1, 1) := by decide +kernel
theorem dX11_cause_28 : decode cX11_cause 28 = .ok (.iload_n 2, 1) := by decide +kernel
theorem dX11_cause_29 : decode cX11_cause 29 = .ok (.invokevirtual 222, 3) := by decide +kernel
theorem dX11_cause_32 : decode cX11_cause 32 = .ok (.goto 8, 3) := by decide +kernel
theorem dX11_cause_35 : decode cX11_cause 35 = .ok (.aload_n 0, 1) := by decide +kernel
theorem dX11_cause_36 : decode cX11_cause 36 = .ok (.iconst 2, 1) := by decide +kernel
theorem dX11_cause_37 : decode cX11_cause 37 = .ok (.invokevirtual 110, 3) := by decide +kernel
theorem dX11_cause_40 : decode cX11_cause 40 = .ok (.ireturn, 1) := by decide +kernel
theorem dX11_toInstant_0 : decode cX11_toInstant 0 = .ok (.aload_n 0, 1) := by decide +kernel
theorem dX11_toInstant_1 : decode cX11_toInstant 1 = .ok (.iconst 0, 1) := by decide +kernel
theorem dX11_toInstant_2 : decode cX11_toInstant 2 = .ok (.putfield 80, 3) := by decide +kernel
theorem dX11_toInstant_5 : decode cX11_toInstant 5 = .ok (.aload_n 0, 1) := by decide +kernel
theorem dX11_toInstant_6 : decode cX11_toInstant 6 = .ok (.iload_n 1, 1) := by decide +kernel
theorem dX11_toInstant_7 : decode cX11_toInstant 7 = .ok (.invokevirtual 126, 3) := by decide +kernel
theorem dX11_toInstant_10 : decode cX11_toInstant 10 = .ok (.ifCond .ne 9, 3) := by decide +kernel
theorem dX11_toInstant_13 : decode cX11_toInstant 13 = .ok (.aload_n 0, 1) := by decide +kernel
theorem dX11_toInstant_14 : decode cX11_toInstant 14 = .ok (.iconst 1, 1) := by decide +kernel
theorem dX11_toInstant_15 : decode cX11_toInstant 15 = .ok (.invokevirtual 110, 3) := by decide +kernel
theorem dX11_toInstant_18 : decode cX11_toInstant 18 = .ok (.ireturn, 1) := by decide +kernel
theorem dX11_toInstant_19 : decode cX11_toInstant 19 = .ok (.iload_n 2, 1) := by decide +kernel
theorem dX11_toInstant_20 : decode cX11_toInstant 20 = .ok (.invokestatic 225, 3) := by decide +kernel
theorem dX11_toInstant_23 : decode cX11_toInstant 23 = .ok (.ifCond .eq 12, 3) := by decide +kernel
theorem dX11_toInstant_26 : decode cX11_toInstant 26 = .ok (.iload_n 3, 1) := by decide +kernel
theorem dX11_toInstant_27 : decode cX11_toInstant 27 = .ok (.iconst 0, 1) := by decide +kernel
theorem dX11_toInstant_28 : decode cX11_toInstant 28 = .ok (.iconst 3, 1) := by decide +kernel
theorem dX11_toInstant_29 : decode cX11_toInstant 29 = .ok (.invokestatic 106, 3) := by decide +kernel
theorem dX11_toInstant_32 : decode cX11_toInstant 32 = .ok (.ifCond .ne 9, 3) := by decide +kernel
theorem dX11_toInstant_35 : decode cX11_toInstant 35 = .ok (.aload_n 0, 1) := by decide +kernel
theorem dX11_toInstant_36 : decode cX11_toInstant 36 = .ok (.iconst 2, 1) := by decide +kernel
theorem dX11_toInstant_37 : decode cX11_toInstant 37 = .ok (.invokevirtual 110, 3) := by decide +kernel
theorem dX11_toInstant_40 : decode cX11_toInstant 40 = .ok (.ireturn, 1) := by decide +kernel
theorem dX11_toInstant_41 : decode cX11_toInstant 41 = .ok (.aload_n 0, 1) := by decide +kernel
theorem dX11_toInstant_42 : decode cX11_toInstant 42 = .ok (.iload_n 1, 1) := by decide +kernel
theorem dX11_toInstant_43 : decode cX11_toInstant 43 = .ok (.iload_n 2, 1) := by decide +kernel
theorem dX11_toInstant_44 : decode cX11_toInstant 44 = .ok (.iload_n 3, 1) := by decide +kernel
theorem dX11_toInstant_45 : decode cX11_toInstant 45 = .ok (.invokevirtual 228, 3) := by decide +kernel
theorem dX11_toInstant_48 : decode cX11_toInstant 48 = .ok (.ifCond .eq 10, 3) := by decide +kernel
theorem dX11_toInstant_51 : decode cX11_toInstant 51 = .ok (.aload_n 0, 1) := by decide +kernel
theorem dX11_toInstant_52 : decode cX11_toInstant 52 = .ok (.getfield 213, 3) := by decide +kernel
theorem dX11_toInstant_55 : decode cX11_toInstant 55 = .ok (.goto 8, 3) := by decide +kernel
theorem dX11_toInstant_58 : decode cX11_toInstant 58 = .ok (.aload_n 0, 1) := by decide +kernel
theorem dX11_toInstant_59 : decode cX11_toInstant 59 = .ok (.iconst 3, 1) := by decide +kernel
theorem dX11_toInstant_60 : decode cX11_toInstant 60 = .ok (.invokevirtual 110, 3) := by decide +kernel
theorem dX11_toInstant_63 : decode cX11_toInstant 63 = .ok (.ireturn, 1) := by decide +kernel
theorem dX11_convert_0 : decode cX11_convert 0 = .ok (.aload_n 0, 1) := by decide +kernel
theorem dX11_convert_1 : decode cX11_convert 1 = .ok (.iconst 0, 1) := by decide +kernel
theorem dX11_convert_2 : decode cX11_convert 2 = .ok (.putfield 80, 3) := by decide +kernel
theorem dX11_convert_5 : decode cX11_convert 5 = .ok (.aload_n 0, 1) := by decide +kernel
theorem dX11_convert_6 : decode cX11_convert 6 = .ok (.iload_n 1, 1) := by decide +kernel
theorem dX11_convert_7 : decode cX11_convert 7 = .ok (.invokevirtual 126, 3) := by decide +kernel
theorem dX11_convert_10 : decode cX11_convert 10 = .ok (.ifCond .eq 11, 3) := by decide +kernel
theorem dX11_convert_13 : decode cX11_convert 13 = .ok (.aload_n 0, 1) := by decide +kernel
theorem dX11_convert_14 : decode cX11_convert 14 = .ok (.iload_n 3, 1) := by decide +kernel
theorem dX11_convert_15 : decode cX11_convert 15 = .ok (.invokevirtual 126, 3) := by decide +kernel
theorem dX11_convert_18 : decode cX11_convert 18 = .ok (.ifCond .ne 9, 3) := by decide +kernel
theorem dX11_convert_21 : decode cX11_convert 21 = .ok (.aload_n 0, 1) := by decide +kernel
theorem dX11_convert_22 : decode cX11_convert 22 = .ok (.iconst 1, 1) := by decide +kernel
theorem dX11_convert_23 : decode cX11_convert 23 = .ok (.invokevirtual 110, 3) := by decide +kernel
theorem dX11_convert_26 : decode cX11_convert 26 = .ok (.ireturn, 1) := by decide +kernel
theorem dX11_convert_27 : decode cX11_convert 27 = .ok (.iload_n 2, 1) := by decide +kernel
theorem dX11_convert_28 : decode cX11_convert 28 = .ok (.invokestatic 225, 3) := by decide +kernel
theorem dX11_convert_31 : decode cX11_convert 31 = .ok (.ifCond .eq 13, 3) := by decide +kernel
theorem dX11_convert_34 : decode cX11_convert 34 = .ok (.iload 4, 2) := by decide +kernel
theorem dX11_convert_36 : decode cX11_convert 36 = .ok (.iconst 0, 1) := by decide +kernel
theorem dX11_convert_37 : decode cX11_convert 37 = .ok (.iconst 3, 1) := by decide +kernel
theorem dX11_convert_38 : decode cX11_convert 38 = .ok (.invokestatic 106, 3) := by decide +kernel
theorem dX11_convert_41 : decode cX11_convert 41 = .ok (.ifCond .ne 9, 3) := by decide +kernel
theorem dX11_convert_44 : decode cX11_convert 44 = .ok (.aload_n 0, 1) := by decide +kernel
theorem dX11_convert_45 : decode cX11_convert 45 = .ok (.iconst 2, 1) := by decide +kernel
theorem dX11_convert_46 : decode cX11_convert 46 = .ok (.invokevirtual 110, 3) := by decide +kernel
theorem dX11_convert_49 : decode cX11_convert 49 = .ok (.ireturn, 1) := by decide +kernel
theorem dX11_convert_50 : decode cX11_convert 50 = .ok (.aload_n 0, 1) := by decide +kernel
theorem dX11_convert_51 : decode cX11_convert 51 = .ok (.iload_n 1, 1) := by decide +kernel
theorem dX11_convert_52 : decode cX11_convert 52 = .ok (.iload_n 2, 1) := by decide +kernel
theorem dX11_convert_53 : decode cX11_convert 53 = .ok (.iload 4, 2) := by decide +kernel
theorem dX11_convert_55 : decode cX11_convert 55 = .ok (.invokevirtual 228, 3) := by decide +kernel
theorem dX11_convert_58 : decode cX11_convert 58 = .ok (.ifCond .ne 9, 3) := by decide +kernel
theorem dX11_convert_61 : decode cX11_convert 61 = .ok (.aload_n 0, 1) := by decide +kernel
theorem dX11_convert_62 : decode cX11_convert 62 = .ok (.iconst 3, 1) := by decide +kernel
theorem dX11_convert_63 : decode cX11_convert 63 = .ok (.invokevirtual 110, 3) := by decide +kernel
theorem dX11_convert_66 : decode cX11_convert 66 = .ok (.ireturn, 1) := by decide +kernel
theorem dX11_convert_67 : decode cX11_convert 67 = .ok (.aload_n 0, 1) := by decide +kernel
theorem dX11_convert_68 : decode cX11_convert 68 = .ok (.getfield 213, 3) := by decide +kernel
theorem dX11_convert_71 : decode cX11_convert 71 = .ok (.istore 5, 2) := by decide +kernel
theorem dX11_convert_73 : decode cX11_convert 73 = .ok (.iload 5, 2) := by decide +kernel
theorem dX11_convert_75 : decode cX11_convert 75 = .ok (.aload_n 0, 1) := by decide +kernel
theorem dX11_convert_76 : decode cX11_convert 76 = .ok (.iload_n 3, 1) := by decide +kernel
theorem dX11_convert_77 : decode cX11_convert 77 = .ok (.iload 5, 2) := by decide +kernel
theorem dX11_convert_79 : decode cX11_convert 79 = .ok (.invokevirtual 206, 3) := by decide +kernel
theorem dX11_convert_82 : decode cX11_convert 82 = .ok (.iadd, 1) := by decide +kernel
theorem dX11_convert_83 : decode cX11_convert 83 = .ok (.ireturn, 1) := by decide +kernel
theorem dX11_begins_0 : decode cX11_begins 0 = .ok (.aload_n 0, 1) := by decide +kernel
theorem dX11_begins_1 : decode cX11_begins 1 = .ok (.iload_n 1, 1) := by decide +kernel
theorem dX11_begins_2 : decode cX11_begins 2 = .ok (.sipush 1440, 3) := by decide +kernel
theorem dX11_begins_5 : decode cX11_begins 5 = .ok (.iload_n 2, 1) := by decide +kernel
theorem dX11_begins_6 : decode cX11_begins 6 = .ok (.imul, 1) := by decide +kernel
theorem dX11_begins_7 : decode cX11_begins 7 = .ok (.iconst 2, 1) := by decide +kernel
theorem dX11_begins_8 : decode cX11_begins 8 = .ok (.invokevirtual 228, 3) := by decide +kernel
theorem dX11_begins_11 : decode cX11_begins 11 = .ok (.ifCond .eq 10, 3) := by decide +kernel
theorem dX11_begins_14 : decode cX11_begins 14 = .ok (.aload_n 0, 1) := by decide +kernel
theorem dX11_begins_15 : decode cX11_begins 15 = .ok (.getfield 213, 3) := by decide +kernel
theorem dX11_begins_18 : decode cX11_begins 18 = .ok (.goto 4, 3) := by decide +kernel
theorem dX11_begins_21 : decode cX11_begins 21 = .ok (.iconst 0, 1) := by decide +kernel
theorem dX11_begins_22 : decode cX11_begins 22 = .ok (.ireturn, 1) := by decide +kernel
theorem dX11_dayLength_0 : decode cX11_dayLength 0 = .ok (.aload_n 0, 1) := by decide +kernel
theorem dX11_dayLength_1 : decode cX11_dayLength 1 = .ok (.iconst 0, 1) := by decide +kernel
theorem dX11_dayLength_2 : decode cX11_dayLength 2 = .ok (.putfield 80, 3) := by decide +kernel
theorem dX11_dayLength_5 : decode cX11_dayLength 5 = .ok (.aload_n 0, 1) := by decide +kernel
theorem dX11_dayLength_6 : decode cX11_dayLength 6 = .ok (.iload_n 1, 1) := by decide +kernel
theorem dX11_dayLength_7 : decode cX11_dayLength 7 = .ok (.invokevirtual 126, 3) := by decide +kernel
theorem dX11_dayLength_10 : decode cX11_dayLength 10 = .ok (.ifCond .eq 10, 3) := by decide +kernel
theorem dX11_dayLength_13 : decode cX11_dayLength 13 = .ok (.iload_n 2, 1) := by decide +kernel
theorem dX11_dayLength_14 : decode cX11_dayLength 14 = .ok (.invokestatic 113, 3) := by decide +kernel
theorem dX11_dayLength_17 : decode cX11_dayLength 17 = .ok (.ifCond .ne 9, 3) := by decide +kernel
theorem dX11_dayLength_20 : decode cX11_dayLength 20 = .ok (.aload_n 0, 1) := by decide +kernel
theorem dX11_dayLength_21 : decode cX11_dayLength 21 = .ok (.iconst 1, 1) := by decide +kernel
theorem dX11_dayLength_22 : decode cX11_dayLength 22 = .ok (.invokevirtual 110, 3) := by decide +kernel
theorem dX11_dayLength_25 : decode cX11_dayLength 25 = .ok (.ireturn, 1) := by decide +kernel
theorem dX11_dayLength_26 : decode cX11_dayLength 26 = .ok (.aload_n 0, 1) := by decide +kernel
theorem dX11_dayLength_27 : decode cX11_dayLength 27 = .ok (.iload_n 1, 1) := by decide +kernel
theorem dX11_dayLength_28 : decode cX11_dayLength 28 = .ok (.iload_n 2, 1) := by decide +kernel
theorem dX11_dayLength_29 : decode cX11_dayLength 29 = .ok (.iconst 1, 1) := by decide +kernel
theorem dX11_dayLength_30 : decode cX11_dayLength 30 = .ok (.iadd, 1) := by decide +kernel
theorem dX11_dayLength_31 : decode cX11_dayLength 31 = .ok (.invokevirtual 231, 3) := by decide +kernel
theorem dX11_dayLength_34 : decode cX11_dayLength 34 = .ok (.aload_n 0, 1) := by decide +kernel
theorem dX11_dayLength_35 : decode cX11_dayLength 35 = .ok (.iload_n 1, 1) := by decide +kernel
theorem dX11_dayLength_36 : decode cX11_dayLength 36 = .ok (.iload_n 2, 1) := by decide +kernel
theorem dX11_dayLength_37 : decode cX11_dayLength 37 = .ok (.invokevirtual 231, 3) := by decide +kernel
theorem dX11_dayLength_40 : decode cX11_dayLength 40 = .ok (.isub, 1) := by decide +kernel
theorem dX11_dayLength_41 : decode cX11_dayLength 41 = .ok (.ireturn, 1) := by decide +kernel
theorem dX11_minutes_0 : decode cX11_minutes 0 = .ok (.aload_n 0, 1) := by decide +kernel
theorem dX11_minutes_1 : decode cX11_minutes 1 = .ok (.iload_n 1, 1) := by decide +kernel
theorem dX11_minutes_2 : decode cX11_minutes 2 = .ok (.invokevirtual 187, 3) := by decide +kernel
theorem dX11_minutes_5 : decode cX11_minutes 5 = .ok (.iconst 0, 1) := by decide +kernel
theorem dX11_minutes_6 : decode cX11_minutes 6 = .ok (.istore 5, 2) := by decide +kernel
theorem dX11_minutes_8 : decode cX11_minutes 8 = .ok (.aload_n 0, 1) := by decide +kernel
theorem dX11_minutes_9 : decode cX11_minutes 9 = .ok (.getfield 68, 3) := by decide +kernel
theorem dX11_minutes_12 : decode cX11_minutes 12 = .ok (.iload 5, 2) := by decide +kernel
theorem dX11_minutes_14 : decode cX11_minutes 14 = .ok (.iinc 5 1, 3) := by decide +kernel
theorem dX11_minutes_17 : decode cX11_minutes 17 = .ok (.iload_n 2, 1) := by decide +kernel
theorem dX11_minutes_18 : decode cX11_minutes 18 = .ok (.iastore, 1) := by decide +kernel
theorem dX11_minutes_19 : decode cX11_minutes 19 = .ok (.aload_n 0, 1) := by decide +kernel
theorem dX11_minutes_20 : decode cX11_minutes 20 = .ok (.getfield 68, 3) := by decide +kernel
theorem dX11_minutes_23 : decode cX11_minutes 23 = .ok (.iload 5, 2) := by decide +kernel
theorem dX11_minutes_25 : decode cX11_minutes 25 = .ok (.iinc 5 1, 3) := by decide +kernel
theorem dX11_minutes_28 : decode cX11_minutes 28 = .ok (.iload_n 3, 1) := by decide +kernel
theorem dX11_minutes_29 : decode cX11_minutes 29 = .ok (.iastore, 1) := by decide +kernel
theorem dX11_minutes_30 : decode cX11_minutes 30 = .ok (.iconst 0, 1) := by decide +kernel
theorem dX11_minutes_31 : decode cX11_minutes 31 = .ok (.istore 6, 2) := by decide +kernel
theorem dX11_minutes_33 : decode cX11_minutes 33 = .ok (.iload 6, 2) := by decide +kernel
theorem dX11_minutes_35 : decode cX11_minutes 35 = .ok (.aload_n 0, 1) := by decide +kernel
theorem dX11_minutes_36 : decode cX11_minutes 36 = .ok (.getfield 181, 3) := by decide +kernel
theorem dX11_minutes_39 : decode cX11_minutes 39 = .ok (.if_icmp .ge 126, 3) := by decide +kernel
theorem dX11_minutes_42 : decode cX11_minutes 42 = .ok (.iconst 0, 1) := by decide +kernel
theorem dX11_minutes_43 : decode cX11_minutes 43 = .ok (.istore 7, 2) := by decide +kernel
theorem dX11_minutes_45 : decode cX11_minutes 45 = .ok (.iload 7, 2) := by decide +kernel
theorem dX11_minutes_47 : decode cX11_minutes 47 = .ok (.iconst 2, 1) := by decide +kernel
theorem dX11_minutes_48 : decode cX11_minutes 48 = .ok (.if_icmp .ge 111, 3) := by decide +kernel
theorem dX11_minutes_51 : decode cX11_minutes 51 = .ok (.aload_n 0, 1) := by decide +kernel
theorem dX11_minutes_52 : decode cX11_minutes 52 = .ok (.getfield 44, 3) := by decide +kernel
theorem dX11_minutes_55 : decode cX11_minutes 55 = .ok (.iload 6, 2) := by decide +kernel
theorem dX11_minutes_57 : decode cX11_minutes 57 = .ok (.iaload, 1) := by decide +kernel
theorem dX11_minutes_58 : decode cX11_minutes 58 = .ok (.iload 7, 2) := by decide +kernel
theorem dX11_minutes_60 : decode cX11_minutes 60 = .ok (.ifCond .ne 13, 3) := by decide +kernel
theorem dX11_minutes_63 : decode cX11_minutes 63 = .ok (.aload_n 0, 1) := by decide +kernel
theorem dX11_minutes_64 : decode cX11_minutes 64 = .ok (.getfield 47, 3) := by decide +kernel
theorem dX11_minutes_67 : decode cX11_minutes 67 = .ok (.iload 6, 2) := by decide +kernel
theorem dX11_minutes_69 : decode cX11_minutes 69 = .ok (.iaload, 1) := by decide +kernel
theorem dX11_minutes_70 : decode cX11_minutes 70 = .ok (.goto 10, 3) := by decide +kernel
theorem dX11_minutes_73 : decode cX11_minutes 73 = .ok (.aload_n 0, 1) := by decide +kernel
theorem dX11_minutes_74 : decode cX11_minutes 74 = .ok (.getfield 50, 3) := by decide +kernel
theorem dX11_minutes_77 : decode cX11_minutes 77 = .ok (.iload 6, 2) := by decide +kernel
theorem dX11_minutes_79 : decode cX11_minutes 79 = .ok (.iaload, 1) := by decide +kernel
theorem dX11_minutes_80 : decode cX11_minutes 80 = .ok (.iadd, 1) := by decide +kernel
theorem dX11_minutes_81 : decode cX11_minutes 81 = .ok (.istore 8, 2) := by decide +kernel
theorem dX11_minutes_83 : decode cX11_minutes 83 = .ok (.iload 8, 2) := by decide +kernel
theorem dX11_minutes_85 : decode cX11_minutes 85 = .ok (.iload_n 2, 1) := by decide +kernel
theorem dX11_minutes_86 : decode cX11_minutes 86 = .ok (.iload_n 3, 1) := by decide +kernel
theorem dX11_minutes_87 : decode cX11_minutes 87 = .ok (.invokestatic 106, 3) := by decide +kernel
theorem dX11_minutes_90 : decode cX11_minutes 90 = .ok (.ifCond .ne 6, 3) := by decide +kernel
theorem dX11_minutes_93 : decode cX11_minutes 93 = .ok (.goto 60, 3) := by decide +kernel
theorem dX11_minutes_96 : decode cX11_minutes 96 = .ok (.iload 5, 2) := by decide +kernel
theorem dX11_minutes_98 : decode cX11_minutes 98 = .ok (.iinc 5 1, 3) := by decide +kernel
theorem dX11_minutes_101 : decode cX11_minutes 101 = .ok (.istore 9, 2) := by decide +kernel
theorem dX11_minutes_103 : decode cX11_minutes 103 = .ok (.iload 9, 2) := by decide +kernel
theorem dX11_minutes_105 : decode cX11_minutes 105 = .ok (.ifCond .le 39, 3) := by decide +kernel
theorem dX11_minutes_108 : decode cX11_minutes 108 = .ok (.aload_n 0, 1) := by decide +kernel
theorem dX11_minutes_109 : decode cX11_minutes 109 = .ok (.getfield 68, 3) := by decide +kernel
theorem dX11_minutes_112 : decode cX11_minutes 112 = .ok (.iload 9, 2) := by decide +kernel
theorem dX11_minutes_114 : decode cX11_minutes 114 = .ok (.iconst 1, 1) := by decide +kernel
theorem dX11_minutes_115 : decode cX11_minutes 115 = .ok (.isub, 1) := by decide +kernel
theorem dX11_minutes_116 : decode cX11_minutes 116 = .ok (.iaload, 1) := by decide +kernel
theorem dX11_minutes_117 : decode cX11_minutes 117 = .ok (.iload 8, 2) := by decide +kernel
theorem dX11_minutes_119 : decode cX11_minutes 119 = .ok (.if_icmp .le 25, 3) := by decide +kernel
theorem dX11_minutes_122 : decode cX11_minutes 122 = .ok (.aload_n 0, 1) := by decide +kernel
theorem dX11_minutes_123 : decode cX11_minutes 123 = .ok (.getfield 68, 3) := by decide +kernel
theorem dX11_minutes_126 : decode cX11_minutes 126 = .ok (.iload 9, 2) := by decide +kernel
theorem dX11_minutes_128 : decode cX11_minutes 128 = .ok (.aload_n 0, 1) := by decide +kernel
theorem dX11_minutes_129 : decode cX11_minutes 129 = .ok (.getfield 68, 3) := by decide +kernel
theorem dX11_minutes_132 : decode cX11_minutes 132 = .ok (.iload 9, 2) := by decide +kernel
theorem dX11_minutes_134 : decode cX11_minutes 134 = .ok (.iconst 1, 1) := by decide +kernel
theorem dX11_minutes_135 : decode cX11_minutes 135 = .ok (.isub, 1) := by decide +kernel
theorem dX11_minutes_136 : decode cX11_minutes 136 = .ok (.iaload, 1) := by decide +kernel
theorem dX11_minutes_137 : decode cX11_minutes 137 = .ok (.iastore, 1) := by decide +kernel
theorem dX11_minutes_138 : decode cX11_minutes 138 = .ok (.iinc 9 (-1), 3) := by decide +kernel
theorem dX11_minutes_141 : decode cX11_minutes 141 = .ok (.goto (-38), 3) := by decide +kernel
theorem dX11_minutes_144 : decode cX11_minutes 144 = .ok (.aload_n 0, 1) := by decide +kernel
theorem dX11_minutes_145 : decode cX11_minutes 145 = .ok (.getfield 68, 3) := by decide +kernel
theorem dX11_minutes_148 : decode cX11_minutes 148 = .ok (.iload 9, 2) := by decide +kernel
theorem dX11_minutes_150 : decode cX11_minutes 150 = .ok (.iload 8, 2) := by decide +kernel
theorem dX11_minutes_152 : decode cX11_minutes 152 = .ok (.iastore, 1) := by decide +kernel
theorem dX11_minutes_153 : decode cX11_minutes 153 = .ok (.iinc 7 1, 3) := by decide +kernel
theorem dX11_minutes_156 : decode cX11_minutes 156 = .ok (.goto (-111), 3) := by decide +kernel
theorem dX11_minutes_159 : decode cX11_minutes 159 = .ok (.iinc 6 1, 3) := by decide +kernel
theorem dX11_minutes_162 : decode cX11_minutes 162 = .ok (.goto (-129), 3) := by decide +kernel
theorem dX11_minutes_165 : decode cX11_minutes 165 = .ok (.iconst 0, 1) := by decide +kernel
theorem dX11_minutes_166 : decode cX11_minutes 166 = .ok (.istore 6, 2) := by decide +kernel
theorem dX11_minutes_168 : decode cX11_minutes 168 = .ok (.iconst 0, 1) := by decide +kernel
theorem dX11_minutes_169 : decode cX11_minutes 169 = .ok (.istore 7, 2) := by decide +kernel
theorem dX11_minutes_171 : decode cX11_minutes 171 = .ok (.iload 7, 2) := by decide +kernel
theorem dX11_minutes_173 : decode cX11_minutes 173 = .ok (.iconst 1, 1) := by decide +kernel
theorem dX11_minutes_174 : decode cX11_minutes 174 = .ok (.iadd, 1) := by decide +kernel
theorem dX11_minutes_175 : decode cX11_minutes 175 = .ok (.iload 5, 2) := by decide +kernel
theorem dX11_minutes_177 : decode cX11_minutes 177 = .ok (.if_icmp .ge 119, 3) := by decide +kernel
theorem dX11_minutes_180 : decode cX11_minutes 180 = .ok (.aload_n 0, 1) := by decide +kernel
theorem dX11_minutes_181 : decode cX11_minutes 181 = .ok (.getfield 68, 3) := by decide +kernel
theorem dX11_minutes_184 : decode cX11_minutes 184 = .ok (.iload 7, 2) := by decide +kernel
theorem dX11_minutes_186 : decode cX11_minutes 186 = .ok (.iaload, 1) := by decide +kernel
theorem dX11_minutes_187 : decode cX11_minutes 187 = .ok (.aload_n 0, 1) := by decide +kernel
theorem dX11_minutes_188 : decode cX11_minutes 188 = .ok (.getfield 68, 3) := by decide +kernel
theorem dX11_minutes_191 : decode cX11_minutes 191 = .ok (.iload 7, 2) := by decide +kernel
theorem dX11_minutes_193 : decode cX11_minutes 193 = .ok (.iconst 1, 1) := by decide +kernel
theorem dX11_minutes_194 : decode cX11_minutes 194 = .ok (.iadd, 1) := by decide +kernel
theorem dX11_minutes_195 : decode cX11_minutes 195 = .ok (.iaload, 1) := by decide +kernel
theorem dX11_minutes_196 : decode cX11_minutes 196 = .ok (.if_icmp .ne 6, 3) := by decide +kernel
theorem dX11_minutes_199 : decode cX11_minutes 199 = .ok (.goto 91, 3) := by decide +kernel
theorem dX11_minutes_202 : decode cX11_minutes 202 = .ok (.aload_n 0, 1) := by decide +kernel
theorem dX11_minutes_203 : decode cX11_minutes 203 = .ok (.iload_n 1, 1) := by decide +kernel
theorem dX11_minutes_204 : decode cX11_minutes 204 = .ok (.aload_n 0, 1) := by decide +kernel
theorem dX11_minutes_205 : decode cX11_minutes 205 = .ok (.getfield 68, 3) := by decide +kernel
theorem dX11_minutes_208 : decode cX11_minutes 208 = .ok (.iload 7, 2) := by decide +kernel
theorem dX11_minutes_210 : decode cX11_minutes 210 = .ok (.iaload, 1) := by decide +kernel
theorem dX11_minutes_211 : decode cX11_minutes 211 = .ok (.invokevirtual 219, 3) := by decide +kernel
theorem dX11_minutes_214 : decode cX11_minutes 214 = .ok (.iload 4, 2) := by decide +kernel
theorem dX11_minutes_216 : decode cX11_minutes 216 = .ok (.ifCond .eq 32, 3) := by decide +kernel
theorem dX11_minutes_219 : decode cX11_minutes 219 = .ok (.aload_n 0, 1) := by decide +kernel
theorem dX11_minutes_220 : decode cX11_minutes 220 = .ok (.getfield 210, 3) := by decide +kernel
theorem dX11_minutes_223 : decode cX11_minutes 223 = .ok (.ifCond .ne 25, 3) := by decide +kernel
theorem dX11_minutes_226 : decode cX11_minutes 226 = .ok (.iload 6, 2) := by decide +kernel
theorem dX11_minutes_228 : decode cX11_minutes 228 = .ok (.aload_n 0, 1) := by decide +kernel
theorem dX11_minutes_229 : decode cX11_minutes 229 = .ok (.getfield 68, 3) := by decide +kernel
theorem dX11_minutes_232 : decode cX11_minutes 232 = .ok (.iload 7, 2) := by decide +kernel
theorem dX11_minutes_234 : decode cX11_minutes 234 = .ok (.iconst 1, 1) := by decide +kernel
theorem dX11_minutes_235 : decode cX11_minutes 235 = .ok (.iadd, 1) := by decide +kernel
theorem dX11_minutes_236 : decode cX11_minutes 236 = .ok (.iaload, 1) := by decide +kernel
theorem dX11_minutes_237 : decode cX11_minutes 237 = .ok (.aload_n 0, 1) := by decide +kernel
theorem dX11_minutes_238 : decode cX11_minutes 238 = .ok (.getfield 68, 3) := by decide +kernel
theorem dX11_minutes_241 : decode cX11_minutes 241 = .ok (.iload 7, 2) := by decide +kernel
theorem dX11_minutes_243 : decode cX11_minutes 243 = .ok (.iaload, 1) := by decide +kernel
theorem dX11_minutes_244 : decode cX11_minutes 244 = .ok (.isub, 1) := by decide +kernel
theorem dX11_minutes_245 : decode cX11_minutes 245 = .ok (.iadd, 1) := by decide +kernel
theorem dX11_minutes_246 : decode cX11_minutes 246 = .ok (.istore 6, 2) := by decide +kernel
theorem dX11_minutes_248 : decode cX11_minutes 248 = .ok (.iload 4, 2) := by decide +kernel
theorem dX11_minutes_250 : decode cX11_minutes 250 = .ok (.ifCond .ne 40, 3) := by decide +kernel
theorem dX11_minutes_253 : decode cX11_minutes 253 = .ok (.aload_n 0, 1) := by decide +kernel
theorem dX11_minutes_254 : decode cX11_minutes 254 = .ok (.getfield 210, 3) := by decide +kernel
theorem dX11_minutes_257 : decode cX11_minutes 257 = .ok (.iconst 1, 1) := by decide +kernel
theorem dX11_minutes_258 : decode cX11_minutes 258 = .ok (.if_icmp .le 32, 3) := by decide +kernel
theorem dX11_minutes_261 : decode cX11_minutes 261 = .ok (.iload 6, 2) := by decide +kernel
theorem dX11_minutes_263 : decode cX11_minutes 263 = .ok (.aload_n 0, 1) := by decide +kernel
theorem dX11_minutes_264 : decode cX11_minutes 264 = .ok (.getfield 210, 3) := by decide +kernel
theorem dX11_minutes_267 : decode cX11_minutes 267 = .ok (.iconst 1, 1) := by decide +kernel
theorem dX11_minutes_268 : decode cX11_minutes 268 = .ok (.isub, 1) := by decide +kernel
theorem dX11_minutes_269 : decode cX11_minutes 269 = .ok (.aload_n 0, 1) := by decide +kernel
theorem dX11_minutes_270 : decode cX11_minutes 270 = .ok (.getfield 68, 3) := by decide +kernel
theorem dX11_minutes_273 : decode cX11_minutes 273 = .ok (.iload 7, 2) := by decide +kernel
theorem dX11_minutes_275 : decode cX11_minutes 275 = .ok (.iconst 1, 1) := by decide +kernel
theorem dX11_minutes_276 : decode cX11_minutes 276 = .ok (.iadd, 1) := by decide +kernel
theorem dX11_minutes_277 : decode cX11_minutes 277 = .ok (.iaload, 1) := by decide +kernel
theorem dX11_minutes_278 : decode cX11_minutes 278 = .ok (.aload_n 0, 1) := by decide +kernel
theorem dX11_minutes_279 : decode cX11_minutes 279 = .ok (.getfield 68, 3) := by decide +kernel
theorem dX11_minutes_282 : decode cX11_minutes 282 = .ok (.iload 7, 2) := by decide +kernel
theorem dX11_minutes_284 : decode cX11_minutes 284 = .ok (.iaload, 1) := by decide +kernel
theorem dX11_minutes_285 : decode cX11_minutes 285 = .ok (.isub, 1) := by decide +kernel
theorem dX11_minutes_286 : decode cX11_minutes 286 = .ok (.imul, 1) := by decide +kernel
theorem dX11_minutes_287 : decode cX11_minutes 287 = .ok (.iadd, 1) := by decide +kernel
theorem dX11_minutes_288 : decode cX11_minutes 288 = .ok (.istore 6, 2) := by decide +kernel
theorem dX11_minutes_290 : decode cX11_minutes 290 = .ok (.iinc 7 1, 3) := by decide +kernel
theorem dX11_minutes_293 : decode cX11_minutes 293 = .ok (.goto (-122), 3) := by decide +kernel
theorem dX11_minutes_296 : decode cX11_minutes 296 = .ok (.iload 6, 2) := by decide +kernel
theorem dX11_minutes_298 : decode cX11_minutes 298 = .ok (.ireturn, 1) := by decide +kernel
theorem dX11_account_0 : decode cX11_account 0 = .ok (.aload_n 0, 1) := by decide +kernel
theorem dX11_account_1 : decode cX11_account 1 = .ok (.iconst 0, 1) := by decide +kernel
theorem dX11_account_2 : decode cX11_account 2 = .ok (.putfield 80, 3) := by decide +kernel
theorem dX11_account_5 : decode cX11_account 5 = .ok (.aload_n 0, 1) := by decide +kernel
theorem dX11_account_6 : decode cX11_account 6 = .ok (.iload_n 1, 1) := by decide +kernel
theorem dX11_account_7 : decode cX11_account 7 = .ok (.invokevirtual 126, 3) := by decide +kernel
theorem dX11_account_10 : decode cX11_account 10 = .ok (.ifCond .ne 9, 3) := by decide +kernel
theorem dX11_account_13 : decode cX11_account 13 = .ok (.aload_n 0, 1) := by decide +kernel
theorem dX11_account_14 : decode cX11_account 14 = .ok (.iconst 1, 1) := by decide +kernel
theorem dX11_account_15 : decode cX11_account 15 = .ok (.invokevirtual 110, 3) := by decide +kernel
theorem dX11_account_18 : decode cX11_account 18 = .ok (.ireturn, 1) := by decide +kernel
theorem dX11_account_19 : decode cX11_account 19 = .ok (.iload_n 2, 1) := by decide +kernel
theorem dX11_account_20 : decode cX11_account 20 = .ok (.iconst 0, 1) := by decide +kernel
theorem dX11_account_21 : decode cX11_account 21 = .ok (.bipush 31, 2) := by decide +kernel
theorem dX11_account_23 : decode cX11_account 23 = .ok (.invokestatic 106, 3) := by decide +kernel
theorem dX11_account_26 : decode cX11_account 26 = .ok (.ifCond .eq 12, 3) := by decide +kernel
theorem dX11_account_29 : decode cX11_account 29 = .ok (.iload_n 3, 1) := by decide +kernel
theorem dX11_account_30 : decode cX11_account 30 = .ok (.iconst 0, 1) := by decide +kernel
theorem dX11_account_31 : decode cX11_account 31 = .ok (.iconst 3, 1) := by decide +kernel
theorem dX11_account_32 : decode cX11_account 32 = .ok (.invokestatic 106, 3) := by decide +kernel
theorem dX11_account_35 : decode cX11_account 35 = .ok (.ifCond .ne 9, 3) := by decide +kernel
theorem dX11_account_38 : decode cX11_account 38 = .ok (.aload_n 0, 1) := by decide +kernel
theorem dX11_account_39 : decode cX11_account 39 = .ok (.iconst 2, 1) := by decide +kernel
theorem dX11_account_40 : decode cX11_account 40 = .ok (.invokevirtual 110, 3) := by decide +kernel
theorem dX11_account_43 : decode cX11_account 43 = .ok (.ireturn, 1) := by decide +kernel
theorem dX11_account_44 : decode cX11_account 44 = .ok (.iload_n 2, 1) := by decide +kernel
theorem dX11_account_45 : decode cX11_account 45 = .ok (.invokestatic 89, 3) := by decide +kernel
theorem dX11_account_48 : decode cX11_account 48 = .ok (.istore 4, 2) := by decide +kernel
theorem dX11_account_50 : decode cX11_account 50 = .ok (.iload_n 2, 1) := by decide +kernel
theorem dX11_account_51 : decode cX11_account 51 = .ok (.iconst 1, 1) := by decide +kernel
theorem dX11_account_52 : decode cX11_account 52 = .ok (.iadd, 1) := by decide +kernel
theorem dX11_account_53 : decode cX11_account 53 = .ok (.invokestatic 89, 3) := by decide +kernel
theorem dX11_account_56 : decode cX11_account 56 = .ok (.istore 5, 2) := by decide +kernel
theorem dX11_account_58 : decode cX11_account 58 = .ok (.iload_n 3, 1) := by decide +kernel
theorem dX11_account_59 : decode cX11_account 59 = .ok (.ifCond .ne 19, 3) := by decide +kernel
theorem dX11_account_62 : decode cX11_account 62 = .ok (.aload_n 0, 1) := by decide +kernel
theorem dX11_account_63 : decode cX11_account 63 = .ok (.iload_n 1, 1) := by decide +kernel
theorem dX11_account_64 : decode cX11_account 64 = .ok (.iload 5, 2) := by decide +kernel
theorem dX11_account_66 : decode cX11_account 66 = .ok (.invokevirtual 231, 3) := by decide +kernel
theorem dX11_account_69 : decode cX11_account 69 = .ok (.aload_n 0, 1) := by decide +kernel
theorem dX11_account_70 : decode cX11_account 70 = .ok (.iload_n 1, 1) := by decide +kernel
theorem dX11_account_71 : decode cX11_account 71 = .ok (.iload 4, 2) := by decide +kernel
theorem dX11_account_73 : decode cX11_account 73 = .ok (.invokevirtual 231, 3) := by decide +kernel
theorem dX11_account_76 : decode cX11_account 76 = .ok (.isub, 1) := by decide +kernel
theorem dX11_account_77 : decode cX11_account 77 = .ok (.ireturn, 1) := by decide +kernel
theorem dX11_account_78 : decode cX11_account 78 = .ok (.iload_n 3, 1) := by decide +kernel
theorem dX11_account_79 : decode cX11_account 79 = .ok (.iconst 3, 1) := by decide +kernel
theorem dX11_account_80 : decode cX11_account 80 = .ok (.if_icmp .ne 15, 3) := by decide +kernel
theorem dX11_account_83 : decode cX11_account 83 = .ok (.sipush 1440, 3) := by decide +kernel
theorem dX11_account_86 : decode cX11_account 86 = .ok (.iload 5, 2) := by decide +kernel
theorem dX11_account_88 : decode cX11_account 88 = .ok (.iload 4, 2) := by decide +kernel
theorem dX11_account_90 : decode cX11_account 90 = .ok (.isub, 1) := by decide +kernel
theorem dX11_account_91 : decode cX11_account 91 = .ok (.imul, 1) := by decide +kernel
theorem dX11_account_92 : decode cX11_account 92 = .ok (.goto 30, 3) := by decide +kernel
theorem dX11_account_95 : decode cX11_account 95 = .ok (.aload_n 0, 1) := by decide +kernel
theorem dX11_account_96 : decode cX11_account 96 = .ok (.iload_n 1, 1) := by decide +kernel
theorem dX11_account_97 : decode cX11_account 97 = .ok (.sipush 1440, 3) := by decide +kernel
theorem dX11_account_100 : decode cX11_account 100 = .ok (.iload 4, 2) := by decide +kernel
theorem dX11_account_102 : decode cX11_account 102 = .ok (.imul, 1) := by decide +kernel
theorem dX11_account_103 : decode cX11_account 103 = .ok (.sipush 1440, 3) := by decide +kernel
theorem dX11_account_106 : decode cX11_account 106 = .ok (.iload 5, 2) := by decide +kernel
theorem dX11_account_108 : decode cX11_account 108 = .ok (.imul, 1) := by decide +kernel
theorem dX11_account_109 : decode cX11_account 109 = .ok (.iload_n 3, 1) := by decide +kernel
theorem dX11_account_110 : decode cX11_account 110 = .ok (.iconst 1, 1) := by decide +kernel
theorem dX11_account_111 : decode cX11_account 111 = .ok (.if_icmp .ne 7, 3) := by decide +kernel
theorem dX11_account_114 : decode cX11_account 114 = .ok (.iconst 1, 1) := by decide +kernel
theorem dX11_account_115 : decode cX11_account 115 = .ok (.goto 4, 3) := by decide +kernel
theorem dX11_account_118 : decode cX11_account 118 = .ok (.iconst 0, 1) := by decide +kernel
theorem dX11_account_119 : decode cX11_account 119 = .ok (.invokevirtual 234, 3) := by decide +kernel
theorem dX11_account_122 : decode cX11_account 122 = .ok (.ireturn, 1) := by decide +kernel
theorem dX11_isMeeting_0 : decode cX11_isMeeting 0 = .ok (.iload_n 1, 1) := by decide +kernel
theorem dX11_isMeeting_1 : decode cX11_isMeeting 1 = .ok (.iconst 0, 1) := by decide +kernel
theorem dX11_isMeeting_2 : decode cX11_isMeeting 2 = .ok (.aload_n 0, 1) := by decide +kernel
theorem dX11_isMeeting_3 : decode cX11_isMeeting 3 = .ok (.getfield 9, 3) := by decide +kernel
theorem dX11_isMeeting_6 : decode cX11_isMeeting 6 = .ok (.iconst 1, 1) := by decide +kernel
theorem dX11_isMeeting_7 : decode cX11_isMeeting 7 = .ok (.iaload, 1) := by decide +kernel
theorem dX11_isMeeting_8 : decode cX11_isMeeting 8 = .ok (.iconst 1, 1) := by decide +kernel
theorem dX11_isMeeting_9 : decode cX11_isMeeting 9 = .ok (.isub, 1) := by decide +kernel
theorem dX11_isMeeting_10 : decode cX11_isMeeting 10 = .ok (.invokestatic 106, 3) := by decide +kernel
theorem dX11_isMeeting_13 : decode cX11_isMeeting 13 = .ok (.ireturn, 1) := by decide +kernel
theorem dX11_meetingAt_0 : decode cX11_meetingAt 0 = .ok (.sipush 404, 3) := by decide +kernel
theorem dX11_meetingAt_3 : decode cX11_meetingAt 3 = .ok (.bipush 89, 2) := by decide +kernel
theorem dX11_meetingAt_5 : decode cX11_meetingAt 5 = .ok (.iload_n 0, 1) := by decide +kernel
theorem dX11_meetingAt_6 : decode cX11_meetingAt 6 = .ok (.imul, 1) := by decide +kernel
theorem dX11_meetingAt_7 : decode cX11_meetingAt 7 = .ok (.iadd, 1) := by decide +kernel
theorem dX11_meetingAt_8 : decode cX11_meetingAt 8 = .ok (.ireturn, 1) := by decide +kernel
theorem dX11_isOccurrence_0 : decode cX11_isOccurrence 0 = .ok (.aload_n 0, 1) := by decide +kernel
theorem dX11_isOccurrence_1 : decode cX11_isOccurrence 1 = .ok (.iload_n 1, 1) := by decide +kernel
