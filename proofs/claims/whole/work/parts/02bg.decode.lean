theorem dX10_watchTo_157 : decode cX10_watchTo 157 = .ok (.iload_n 2, 1) := by decide +kernel
theorem dX10_watchTo_158 : decode cX10_watchTo 158 = .ok (.invokevirtual 262, 3) := by decide +kernel
theorem dX10_watchTo_161 : decode cX10_watchTo 161 = .ok (.ifCond .eq 28, 3) := by decide +kernel
theorem dX10_watchTo_164 : decode cX10_watchTo 164 = .ok (.iload 8, 2) := by decide +kernel
theorem dX10_watchTo_166 : decode cX10_watchTo 166 = .ok (.iconst (-1), 1) := by decide +kernel
theorem dX10_watchTo_167 : decode cX10_watchTo 167 = .ok (.if_icmp .eq 17, 3) := by decide +kernel
theorem dX10_watchTo_170 : decode cX10_watchTo 170 = .ok (.aload_n 0, 1) := by decide +kernel
theorem dX10_watchTo_171 : decode cX10_watchTo 171 = .ok (.iload_n 1, 1) := by decide +kernel
theorem dX10_watchTo_172 : decode cX10_watchTo 172 = .ok (.iload 9, 2) := by decide +kernel
theorem dX10_watchTo_174 : decode cX10_watchTo 174 = .ok (.iload 8, 2) := by decide +kernel
theorem dX10_watchTo_176 : decode cX10_watchTo 176 = .ok (.iload 7, 2) := by decide +kernel
theorem dX10_watchTo_178 : decode cX10_watchTo 178 = .ok (.invokevirtual 265, 3) := by decide +kernel
theorem dX10_watchTo_181 : decode cX10_watchTo 181 = .ok (.ifCond .eq 8, 3) := by decide +kernel
theorem dX10_watchTo_184 : decode cX10_watchTo 184 = .ok (.iload 9, 2) := by decide +kernel
theorem dX10_watchTo_186 : decode cX10_watchTo 186 = .ok (.goto 5, 3) := by decide +kernel
theorem dX10_watchTo_189 : decode cX10_watchTo 189 = .ok (.iload 8, 2) := by decide +kernel
theorem dX10_watchTo_191 : decode cX10_watchTo 191 = .ok (.istore 8, 2) := by decide +kernel
theorem dX10_watchTo_193 : decode cX10_watchTo 193 = .ok (.iinc 9 1, 3) := by decide +kernel
theorem dX10_watchTo_196 : decode cX10_watchTo 196 = .ok (.goto (-53), 3) := by decide +kernel
theorem dX10_watchTo_199 : decode cX10_watchTo 199 = .ok (.iload 8, 2) := by decide +kernel
theorem dX10_watchTo_201 : decode cX10_watchTo 201 = .ok (.iconst (-1), 1) := by decide +kernel
theorem dX10_watchTo_202 : decode cX10_watchTo 202 = .ok (.if_icmp .ne 36, 3) := by decide +kernel
theorem dX10_watchTo_205 : decode cX10_watchTo 205 = .ok (.aload_n 0, 1) := by decide +kernel
theorem dX10_watchTo_206 : decode cX10_watchTo 206 = .ok (.getfield 78, 3) := by decide +kernel
theorem dX10_watchTo_209 : decode cX10_watchTo 209 = .ok (.iload 7, 2) := by decide +kernel
theorem dX10_watchTo_211 : decode cX10_watchTo 211 = .ok (.aload_n 0, 1) := by decide +kernel
theorem dX10_watchTo_212 : decode cX10_watchTo 212 = .ok (.getfield 26, 3) := by decide +kernel
theorem dX10_watchTo_215 : decode cX10_watchTo 215 = .ok (.bipush 12, 2) := by decide +kernel
theorem dX10_watchTo_217 : decode cX10_watchTo 217 = .ok (.iload_n 2, 1) := by decide +kernel
theorem dX10_watchTo_218 : decode cX10_watchTo 218 = .ok (.imul, 1) := by decide +kernel
theorem dX10_watchTo_219 : decode cX10_watchTo 219 = .ok (.iload 7, 2) := by decide +kernel
theorem dX10_watchTo_221 : decode cX10_watchTo 221 = .ok (.iadd, 1) := by decide +kernel
theorem dX10_watchTo_222 : decode cX10_watchTo 222 = .ok (.iaload, 1) := by decide +kernel
theorem dX10_watchTo_223 : decode cX10_watchTo 223 = .ok (.iconst 4, 1) := by decide +kernel
theorem dX10_watchTo_224 : decode cX10_watchTo 224 = .ok (.if_icmp .ne 8, 3) := by decide +kernel
theorem dX10_watchTo_227 : decode cX10_watchTo 227 = .ok (.bipush 21, 2) := by decide +kernel
theorem dX10_watchTo_229 : decode cX10_watchTo 229 = .ok (.goto 5, 3) := by decide +kernel
theorem dX10_watchTo_232 : decode cX10_watchTo 232 = .ok (.bipush 22, 2) := by decide +kernel
theorem dX10_watchTo_234 : decode cX10_watchTo 234 = .ok (.iastore, 1) := by decide +kernel
theorem dX10_watchTo_235 : decode cX10_watchTo 235 = .ok (.goto 66, 3) := by decide +kernel
theorem dX10_watchTo_238 : decode cX10_watchTo 238 = .ok (.aload_n 0, 1) := by decide +kernel
theorem dX10_watchTo_239 : decode cX10_watchTo 239 = .ok (.getfield 47, 3) := by decide +kernel
theorem dX10_watchTo_242 : decode cX10_watchTo 242 = .ok (.bipush 23, 2) := by decide +kernel
theorem dX10_watchTo_244 : decode cX10_watchTo 244 = .ok (.iload 8, 2) := by decide +kernel
theorem dX10_watchTo_246 : decode cX10_watchTo 246 = .ok (.imul, 1) := by decide +kernel
theorem dX10_watchTo_247 : decode cX10_watchTo 247 = .ok (.iconst 1, 1) := by decide +kernel
theorem dX10_watchTo_248 : decode cX10_watchTo 248 = .ok (.iadd, 1) := by decide +kernel
theorem dX10_watchTo_249 : decode cX10_watchTo 249 = .ok (.iaload, 1) := by decide +kernel
theorem dX10_watchTo_250 : decode cX10_watchTo 250 = .ok (.iload 4, 2) := by decide +kernel
theorem dX10_watchTo_252 : decode cX10_watchTo 252 = .ok (.if_icmp .eq 29, 3) := by decide +kernel
theorem dX10_watchTo_255 : decode cX10_watchTo 255 = .ok (.aload_n 0, 1) := by decide +kernel
theorem dX10_watchTo_256 : decode cX10_watchTo 256 = .ok (.getfield 47, 3) := by decide +kernel
theorem dX10_watchTo_259 : decode cX10_watchTo 259 = .ok (.bipush 23, 2) := by decide +kernel
theorem dX10_watchTo_261 : decode cX10_watchTo 261 = .ok (.iload 8, 2) := by decide +kernel
theorem dX10_watchTo_263 : decode cX10_watchTo 263 = .ok (.imul, 1) := by decide +kernel
theorem dX10_watchTo_264 : decode cX10_watchTo 264 = .ok (.iconst 1, 1) := by decide +kernel
theorem dX10_watchTo_265 : decode cX10_watchTo 265 = .ok (.iadd, 1) := by decide +kernel
theorem dX10_watchTo_266 : decode cX10_watchTo 266 = .ok (.iaload, 1) := by decide +kernel
theorem dX10_watchTo_267 : decode cX10_watchTo 267 = .ok (.istore 4, 2) := by decide +kernel
theorem dX10_watchTo_269 : decode cX10_watchTo 269 = .ok (.aload_n 0, 1) := by decide +kernel
theorem dX10_watchTo_270 : decode cX10_watchTo 270 = .ok (.getfield 78, 3) := by decide +kernel
theorem dX10_watchTo_273 : decode cX10_watchTo 273 = .ok (.iload 7, 2) := by decide +kernel
theorem dX10_watchTo_275 : decode cX10_watchTo 275 = .ok (.bipush 20, 2) := by decide +kernel
theorem dX10_watchTo_277 : decode cX10_watchTo 277 = .ok (.iastore, 1) := by decide +kernel
theorem dX10_watchTo_278 : decode cX10_watchTo 278 = .ok (.goto 23, 3) := by decide +kernel
theorem dX10_watchTo_281 : decode cX10_watchTo 281 = .ok (.iload 8, 2) := by decide +kernel
theorem dX10_watchTo_283 : decode cX10_watchTo 283 = .ok (.istore 5, 2) := by decide +kernel
theorem dX10_watchTo_285 : decode cX10_watchTo 285 = .ok (.aload_n 0, 1) := by decide +kernel
theorem dX10_watchTo_286 : decode cX10_watchTo 286 = .ok (.iload 8, 2) := by decide +kernel
theorem dX10_watchTo_288 : decode cX10_watchTo 288 = .ok (.aload_n 0, 1) := by decide +kernel
theorem dX10_watchTo_289 : decode cX10_watchTo 289 = .ok (.getfield 69, 3) := by decide +kernel
theorem dX10_watchTo_292 : decode cX10_watchTo 292 = .ok (.iload 8, 2) := by decide +kernel
theorem dX10_watchTo_294 : decode cX10_watchTo 294 = .ok (.iaload, 1) := by decide +kernel
theorem dX10_watchTo_295 : decode cX10_watchTo 295 = .ok (.iconst 0, 1) := by decide +kernel
theorem dX10_watchTo_296 : decode cX10_watchTo 296 = .ok (.invokevirtual 194, 3) := by decide +kernel
theorem dX10_watchTo_299 : decode cX10_watchTo 299 = .ok (.istore 6, 2) := by decide +kernel
theorem dX10_watchTo_301 : decode cX10_watchTo 301 = .ok (.iload 5, 2) := by decide +kernel
theorem dX10_watchTo_303 : decode cX10_watchTo 303 = .ok (.iconst (-1), 1) := by decide +kernel
theorem dX10_watchTo_304 : decode cX10_watchTo 304 = .ok (.if_icmp .eq 147, 3) := by decide +kernel
theorem dX10_watchTo_307 : decode cX10_watchTo 307 = .ok (.aload_n 0, 1) := by decide +kernel
theorem dX10_watchTo_308 : decode cX10_watchTo 308 = .ok (.iload 5, 2) := by decide +kernel
theorem dX10_watchTo_310 : decode cX10_watchTo 310 = .ok (.aload_n 0, 1) := by decide +kernel
theorem dX10_watchTo_311 : decode cX10_watchTo 311 = .ok (.getfield 69, 3) := by decide +kernel
theorem dX10_watchTo_314 : decode cX10_watchTo 314 = .ok (.iload 5, 2) := by decide +kernel
theorem dX10_watchTo_316 : decode cX10_watchTo 316 = .ok (.iaload, 1) := by decide +kernel
theorem dX10_watchTo_317 : decode cX10_watchTo 317 = .ok (.iload 7, 2) := by decide +kernel
theorem dX10_watchTo_319 : decode cX10_watchTo 319 = .ok (.iload_n 2, 1) := by decide +kernel
theorem dX10_watchTo_320 : decode cX10_watchTo 320 = .ok (.invokevirtual 202, 3) := by decide +kernel
theorem dX10_watchTo_323 : decode cX10_watchTo 323 = .ok (.ifCond .eq 107, 3) := by decide +kernel
theorem dX10_watchTo_326 : decode cX10_watchTo 326 = .ok (.aload_n 0, 1) := by decide +kernel
theorem dX10_watchTo_327 : decode cX10_watchTo 327 = .ok (.getfield 78, 3) := by decide +kernel
theorem dX10_watchTo_330 : decode cX10_watchTo 330 = .ok (.iload 7, 2) := by decide +kernel
theorem dX10_watchTo_332 : decode cX10_watchTo 332 = .ok (.iload 5, 2) := by decide +kernel
theorem dX10_watchTo_334 : decode cX10_watchTo 334 = .ok (.iastore, 1) := by decide +kernel
theorem dX10_watchTo_335 : decode cX10_watchTo 335 = .ok (.iinc 6 (-1), 3) := by decide +kernel
theorem dX10_watchTo_338 : decode cX10_watchTo 338 = .ok (.iload 6, 2) := by decide +kernel
theorem dX10_watchTo_340 : decode cX10_watchTo 340 = .ok (.ifCond .ne 111, 3) := by decide +kernel
theorem dX10_watchTo_343 : decode cX10_watchTo 343 = .ok (.aload_n 0, 1) := by decide +kernel
theorem dX10_watchTo_344 : decode cX10_watchTo 344 = .ok (.getfield 72, 3) := by decide +kernel
theorem dX10_watchTo_347 : decode cX10_watchTo 347 = .ok (.iload 5, 2) := by decide +kernel
theorem dX10_watchTo_349 : decode cX10_watchTo 349 = .ok (.iload 7, 2) := by decide +kernel
theorem dX10_watchTo_351 : decode cX10_watchTo 351 = .ok (.iconst 1, 1) := by decide +kernel
theorem dX10_watchTo_352 : decode cX10_watchTo 352 = .ok (.iadd, 1) := by decide +kernel
theorem dX10_watchTo_353 : decode cX10_watchTo 353 = .ok (.iastore, 1) := by decide +kernel
theorem dX10_watchTo_354 : decode cX10_watchTo 354 = .ok (.aload_n 0, 1) := by decide +kernel
theorem dX10_watchTo_355 : decode cX10_watchTo 355 = .ok (.getfield 69, 3) := by decide +kernel
theorem dX10_watchTo_358 : decode cX10_watchTo 358 = .ok (.iload 5, 2) := by decide +kernel
theorem dX10_watchTo_360 : decode cX10_watchTo 360 = .ok (.aload_n 0, 1) := by decide +kernel
theorem dX10_watchTo_361 : decode cX10_watchTo 361 = .ok (.getfield 69, 3) := by decide +kernel
theorem dX10_watchTo_364 : decode cX10_watchTo 364 = .ok (.iload 5, 2) := by decide +kernel
theorem dX10_watchTo_366 : decode cX10_watchTo 366 = .ok (.iaload, 1) := by decide +kernel
theorem dX10_watchTo_367 : decode cX10_watchTo 367 = .ok (.iconst 1, 1) := by decide +kernel
theorem dX10_watchTo_368 : decode cX10_watchTo 368 = .ok (.iadd, 1) := by decide +kernel
theorem dX10_watchTo_369 : decode cX10_watchTo 369 = .ok (.aload_n 0, 1) := by decide +kernel
theorem dX10_watchTo_370 : decode cX10_watchTo 370 = .ok (.iload 5, 2) := by decide +kernel
theorem dX10_watchTo_372 : decode cX10_watchTo 372 = .ok (.invokevirtual 209, 3) := by decide +kernel
theorem dX10_watchTo_375 : decode cX10_watchTo 375 = .ok (.if_icmp .ne 8, 3) := by decide +kernel
theorem dX10_watchTo_378 : decode cX10_watchTo 378 = .ok (.bipush 8, 2) := by decide +kernel
theorem dX10_watchTo_380 : decode cX10_watchTo 380 = .ok (.goto 12, 3) := by decide +kernel
theorem dX10_watchTo_383 : decode cX10_watchTo 383 = .ok (.aload_n 0, 1) := by decide +kernel
theorem dX10_watchTo_384 : decode cX10_watchTo 384 = .ok (.getfield 69, 3) := by decide +kernel
theorem dX10_watchTo_387 : decode cX10_watchTo 387 = .ok (.iload 5, 2) := by decide +kernel
theorem dX10_watchTo_389 : decode cX10_watchTo 389 = .ok (.iaload, 1) := by decide +kernel
theorem dX10_watchTo_390 : decode cX10_watchTo 390 = .ok (.iconst 1, 1) := by decide +kernel
theorem dX10_watchTo_391 : decode cX10_watchTo 391 = .ok (.iadd, 1) := by decide +kernel
theorem dX10_watchTo_392 : decode cX10_watchTo 392 = .ok (.iastore, 1) := by decide +kernel
theorem dX10_watchTo_393 : decode cX10_watchTo 393 = .ok (.aload_n 0, 1) := by decide +kernel
theorem dX10_watchTo_394 : decode cX10_watchTo 394 = .ok (.dup, 1) := by decide +kernel
theorem dX10_watchTo_395 : decode cX10_watchTo 395 = .ok (.getfield 256, 3) := by decide +kernel
theorem dX10_watchTo_398 : decode cX10_watchTo 398 = .ok (.aload_n 0, 1) := by decide +kernel
theorem dX10_watchTo_399 : decode cX10_watchTo 399 = .ok (.getfield 69, 3) := by decide +kernel
theorem dX10_watchTo_402 : decode cX10_watchTo 402 = .ok (.iload 5, 2) := by decide +kernel
theorem dX10_watchTo_404 : decode cX10_watchTo 404 = .ok (.iaload, 1) := by decide +kernel
theorem dX10_watchTo_405 : decode cX10_watchTo 405 = .ok (.bipush 8, 2) := by decide +kernel
theorem dX10_watchTo_407 : decode cX10_watchTo 407 = .ok (.if_icmp .ne 12, 3) := by decide +kernel
theorem dX10_watchTo_410 : decode cX10_watchTo 410 = .ok (.aload_n 0, 1) := by decide +kernel
theorem dX10_watchTo_411 : decode cX10_watchTo 411 = .ok (.iload 5, 2) := by decide +kernel
theorem dX10_watchTo_413 : decode cX10_watchTo 413 = .ok (.invokevirtual 222, 3) := by decide +kernel
theorem dX10_watchTo_416 : decode cX10_watchTo 416 = .ok (.goto 4, 3) := by decide +kernel
theorem dX10_watchTo_419 : decode cX10_watchTo 419 = .ok (.iconst 0, 1) := by decide +kernel
theorem dX10_watchTo_420 : decode cX10_watchTo 420 = .ok (.iadd, 1) := by decide +kernel
theorem dX10_watchTo_421 : decode cX10_watchTo 421 = .ok (.putfield 256, 3) := by decide +kernel
theorem dX10_watchTo_424 : decode cX10_watchTo 424 = .ok (.iconst (-1), 1) := by decide +kernel
theorem dX10_watchTo_425 : decode cX10_watchTo 425 = .ok (.istore 5, 2) := by decide +kernel
theorem dX10_watchTo_427 : decode cX10_watchTo 427 = .ok (.goto 24, 3) := by decide +kernel
theorem dX10_watchTo_430 : decode cX10_watchTo 430 = .ok (.aload_n 0, 1) := by decide +kernel
theorem dX10_watchTo_431 : decode cX10_watchTo 431 = .ok (.getfield 78, 3) := by decide +kernel
theorem dX10_watchTo_434 : decode cX10_watchTo 434 = .ok (.iload 7, 2) := by decide +kernel
theorem dX10_watchTo_436 : decode cX10_watchTo 436 = .ok (.bipush 10, 2) := by decide +kernel
theorem dX10_watchTo_438 : decode cX10_watchTo 438 = .ok (.iload 5, 2) := by decide +kernel
theorem dX10_watchTo_440 : decode cX10_watchTo 440 = .ok (.iadd, 1) := by decide +kernel
theorem dX10_watchTo_441 : decode cX10_watchTo 441 = .ok (.iastore, 1) := by decide +kernel
theorem dX10_watchTo_442 : decode cX10_watchTo 442 = .ok (.aload_n 0, 1) := by decide +kernel
theorem dX10_watchTo_443 : decode cX10_watchTo 443 = .ok (.iload 5, 2) := by decide +kernel
theorem dX10_watchTo_445 : decode cX10_watchTo 445 = .ok (.invokevirtual 259, 3) := by decide +kernel
theorem dX10_watchTo_448 : decode cX10_watchTo 448 = .ok (.iconst (-1), 1) := by decide +kernel
theorem dX10_watchTo_449 : decode cX10_watchTo 449 = .ok (.istore 5, 2) := by decide +kernel
theorem dX10_watchTo_451 : decode cX10_watchTo 451 = .ok (.iinc 7 1, 3) := by decide +kernel
theorem dX10_watchTo_454 : decode cX10_watchTo 454 = .ok (.goto (-395), 3) := by decide +kernel
theorem dX10_watchTo_457 : decode cX10_watchTo 457 = .ok (.return_, 1) := by decide +kernel
theorem dX10_watch_0 : decode cX10_watch 0 = .ok (.aload_n 0, 1) := by decide +kernel
theorem dX10_watch_1 : decode cX10_watch 1 = .ok (.iload_n 2, 1) := by decide +kernel
theorem dX10_watch_2 : decode cX10_watch 2 = .ok (.invokevirtual 124, 3) := by decide +kernel
theorem dX10_watch_5 : decode cX10_watch 5 = .ok (.ifCond .ne 6, 3) := by decide +kernel
theorem dX10_watch_8 : decode cX10_watch 8 = .ok (.bipush (-2), 2) := by decide +kernel
theorem dX10_watch_10 : decode cX10_watch 10 = .ok (.ireturn, 1) := by decide +kernel
theorem dX10_watch_11 : decode cX10_watch 11 = .ok (.iload_n 1, 1) := by decide +kernel
theorem dX10_watch_12 : decode cX10_watch 12 = .ok (.iconst 0, 1) := by decide +kernel
theorem dX10_watch_13 : decode cX10_watch 13 = .ok (.iconst 2, 1) := by decide +kernel
theorem dX10_watch_14 : decode cX10_watch 14 = .ok (.invokestatic 87, 3) := by decide +kernel
theorem dX10_watch_17 : decode cX10_watch 17 = .ok (.ifCond .ne 6, 3) := by decide +kernel
theorem dX10_watch_20 : decode cX10_watch 20 = .ok (.bipush (-3), 2) := by decide +kernel
theorem dX10_watch_22 : decode cX10_watch 22 = .ok (.ireturn, 1) := by decide +kernel
theorem dX10_watch_23 : decode cX10_watch 23 = .ok (.aload_n 0, 1) := by decide +kernel
theorem dX10_watch_24 : decode cX10_watch 24 = .ok (.iload_n 1, 1) := by decide +kernel
theorem dX10_watch_25 : decode cX10_watch 25 = .ok (.iload_n 2, 1) := by decide +kernel
theorem dX10_watch_26 : decode cX10_watch 26 = .ok (.aload_n 0, 1) := by decide +kernel
theorem dX10_watch_27 : decode cX10_watch 27 = .ok (.getfield 7, 3) := by decide +kernel
theorem dX10_watch_30 : decode cX10_watch 30 = .ok (.invokevirtual 268, 3) := by decide +kernel
theorem dX10_watch_33 : decode cX10_watch 33 = .ok (.aload_n 0, 1) := by decide +kernel
theorem dX10_watch_34 : decode cX10_watch 34 = .ok (.getfield 256, 3) := by decide +kernel
theorem dX10_watch_37 : decode cX10_watch 37 = .ok (.ireturn, 1) := by decide +kernel
theorem dX10_log_0 : decode cX10_log 0 = .ok (.aload_n 0, 1) := by decide +kernel
theorem dX10_log_1 : decode cX10_log 1 = .ok (.iload_n 2, 1) := by decide +kernel
theorem dX10_log_2 : decode cX10_log 2 = .ok (.invokevirtual 124, 3) := by decide +kernel
theorem dX10_log_5 : decode cX10_log 5 = .ok (.ifCond .eq 11, 3) := by decide +kernel
theorem dX10_log_8 : decode cX10_log 8 = .ok (.aload_n 0, 1) := by decide +kernel
theorem dX10_log_9 : decode cX10_log 9 = .ok (.iload_n 3, 1) := by decide +kernel
theorem dX10_log_10 : decode cX10_log 10 = .ok (.invokevirtual 111, 3) := by decide +kernel
theorem dX10_log_13 : decode cX10_log 13 = .ok (.ifCond .ne 6, 3) := by decide +kernel
theorem dX10_log_16 : decode cX10_log 16 = .ok (.bipush (-2), 2) := by decide +kernel
theorem dX10_log_18 : decode cX10_log 18 = .ok (.ireturn, 1) := by decide +kernel
theorem dX10_log_19 : decode cX10_log 19 = .ok (.iload_n 1, 1) := by decide +kernel
theorem dX10_log_20 : decode cX10_log 20 = .ok (.iconst 0, 1) := by decide +kernel
theorem dX10_log_21 : decode cX10_log 21 = .ok (.iconst 2, 1) := by decide +kernel
theorem dX10_log_22 : decode cX10_log 22 = .ok (.invokestatic 87, 3) := by decide +kernel
theorem dX10_log_25 : decode cX10_log 25 = .ok (.ifCond .ne 6, 3) := by decide +kernel
theorem dX10_log_28 : decode cX10_log 28 = .ok (.bipush (-3), 2) := by decide +kernel
theorem dX10_log_30 : decode cX10_log 30 = .ok (.ireturn, 1) := by decide +kernel
theorem dX10_log_31 : decode cX10_log 31 = .ok (.aload_n 0, 1) := by decide +kernel
theorem dX10_log_32 : decode cX10_log 32 = .ok (.iload_n 1, 1) := by decide +kernel
theorem dX10_log_33 : decode cX10_log 33 = .ok (.iload_n 2, 1) := by decide +kernel
theorem dX10_log_34 : decode cX10_log 34 = .ok (.aload_n 0, 1) := by decide +kernel
theorem dX10_log_35 : decode cX10_log 35 = .ok (.getfield 7, 3) := by decide +kernel
theorem dX10_log_38 : decode cX10_log 38 = .ok (.invokevirtual 268, 3) := by decide +kernel
theorem dX10_log_41 : decode cX10_log 41 = .ok (.aload_n 0, 1) := by decide +kernel
theorem dX10_log_42 : decode cX10_log 42 = .ok (.getfield 78, 3) := by decide +kernel
theorem dX10_log_45 : decode cX10_log 45 = .ok (.iload_n 3, 1) := by decide +kernel
theorem dX10_log_46 : decode cX10_log 46 = .ok (.iaload, 1) := by decide +kernel
theorem dX10_log_47 : decode cX10_log 47 = .ok (.ireturn, 1) := by decide +kernel
theorem dX10_state_0 : decode cX10_state 0 = .ok (.aload_n 0, 1) := by decide +kernel
theorem dX10_state_1 : decode cX10_state 1 = .ok (.iload_n 2, 1) := by decide +kernel
theorem dX10_state_2 : decode cX10_state 2 = .ok (.invokevirtual 124, 3) := by decide +kernel
theorem dX10_state_5 : decode cX10_state 5 = .ok (.ifCond .eq 11, 3) := by decide +kernel
theorem dX10_state_8 : decode cX10_state 8 = .ok (.aload_n 0, 1) := by decide +kernel
theorem dX10_state_9 : decode cX10_state 9 = .ok (.iload_n 3, 1) := by decide +kernel
theorem dX10_state_10 : decode cX10_state 10 = .ok (.invokevirtual 187, 3) := by decide +kernel
theorem dX10_state_13 : decode cX10_state 13 = .ok (.ifCond .ne 6, 3) := by decide +kernel
theorem dX10_state_16 : decode cX10_state 16 = .ok (.bipush (-2), 2) := by decide +kernel
theorem dX10_state_18 : decode cX10_state 18 = .ok (.ireturn, 1) := by decide +kernel
theorem dX10_state_19 : decode cX10_state 19 = .ok (.iload_n 1, 1) := by decide +kernel
theorem dX10_state_20 : decode cX10_state 20 = .ok (.iconst 0, 1) := by decide +kernel
theorem dX10_state_21 : decode cX10_state 21 = .ok (.iconst 2, 1) := by decide +kernel
theorem dX10_state_22 : decode cX10_state 22 = .ok (.invokestatic 87, 3) := by decide +kernel
theorem dX10_state_25 : decode cX10_state 25 = .ok (.ifCond .eq 16, 3) := by decide +kernel
theorem dX10_state_28 : decode cX10_state 28 = .ok (.iload 4, 2) := by decide +kernel
theorem dX10_state_30 : decode cX10_state 30 = .ok (.iconst 0, 1) := by decide +kernel
theorem dX10_state_31 : decode cX10_state 31 = .ok (.aload_n 0, 1) := by decide +kernel
theorem dX10_state_32 : decode cX10_state 32 = .ok (.getfield 7, 3) := by decide +kernel
theorem dX10_state_35 : decode cX10_state 35 = .ok (.invokestatic 87, 3) := by decide +kernel
theorem dX10_state_38 : decode cX10_state 38 = .ok (.ifCond .ne 6, 3) := by decide +kernel
theorem dX10_state_41 : decode cX10_state 41 = .ok (.bipush (-3), 2) := by decide +kernel
theorem dX10_state_43 : decode cX10_state 43 = .ok (.ireturn, 1) := by decide +kernel
theorem dX10_state_44 : decode cX10_state 44 = .ok (.aload_n 0, 1) := by decide +kernel
theorem dX10_state_45 : decode cX10_state 45 = .ok (.iload_n 1, 1) := by decide +kernel
theorem dX10_state_46 : decode cX10_state 46 = .ok (.iload_n 2, 1) := by decide +kernel
theorem dX10_state_47 : decode cX10_state 47 = .ok (.iload 4, 2) := by decide +kernel
theorem dX10_state_49 : decode cX10_state 49 = .ok (.invokevirtual 268, 3) := by decide +kernel
theorem dX10_state_52 : decode cX10_state 52 = .ok (.aload_n 0, 1) := by decide +kernel
theorem dX10_state_53 : decode cX10_state 53 = .ok (.getfield 69, 3) := by decide +kernel
theorem dX10_state_56 : decode cX10_state 56 = .ok (.iload_n 3, 1) := by decide +kernel
theorem dX10_state_57 : decode cX10_state 57 = .ok (.iaload, 1) := by decide +kernel
theorem dX10_state_58 : decode cX10_state 58 = .ok (.ireturn, 1) := by decide +kernel
theorem dX10_common_0 : decode cX10_common 0 = .ok (.lload_n 0, 1) := by decide +kernel
theorem dX10_common_1 : decode cX10_common 1 = .ok (.lstore 4, 2) := by decide +kernel
theorem dX10_common_3 : decode cX10_common 3 = .ok (.lload_n 2, 1) := by decide +kernel
theorem dX10_common_4 : decode cX10_common 4 = .ok (.lstore 6, 2) := by decide +kernel
theorem dX10_common_6 : decode cX10_common 6 = .ok (.lload 6, 2) := by decide +kernel
theorem dX10_common_8 : decode cX10_common 8 = .ok (.lconst 0, 1) := by decide +kernel
theorem dX10_common_9 : decode cX10_common 9 = .ok (.lcmp, 1) := by decide +kernel
theorem dX10_common_10 : decode cX10_common 10 = .ok (.ifCond .eq 21, 3) := by decide +kernel
theorem dX10_common_13 : decode cX10_common 13 = .ok (.lload 4, 2) := by decide +kernel
theorem dX10_common_15 : decode cX10_common 15 = .ok (.lload 6, 2) := by decide +kernel
theorem dX10_common_17 : decode cX10_common 17 = .ok (.lrem, 1) := by decide +kernel
theorem dX10_common_18 : decode cX10_common 18 = .ok (.lstore 8, 2) := by decide +kernel
theorem dX10_common_20 : decode cX10_common 20 = .ok (.lload 6, 2) := by decide +kernel
theorem dX10_common_22 : decode cX10_common 22 = .ok (.lstore 4, 2) := by decide +kernel
theorem dX10_common_24 : decode cX10_common 24 = .ok (.lload 8, 2) := by decide +kernel
theorem dX10_common_26 : decode cX10_common 26 = .ok (.lstore 6, 2) := by decide +kernel
theorem dX10_common_28 : decode cX10_common 28 = .ok (.goto (-22), 3) := by decide +kernel
theorem dX10_common_31 : decode cX10_common 31 = .ok (.lload 4, 2) := by decide +kernel
theorem dX10_common_33 : decode cX10_common 33 = .ok (.lreturn, 1) := by decide +kernel
theorem dX10_findValue_0 : decode cX10_findValue 0 = .ok (.aload_n 0, 1) := by decide +kernel
theorem dX10_findValue_1 : decode cX10_findValue 1 = .ok (.lconst 0, 1) := by decide +kernel
theorem dX10_findValue_2 : decode cX10_findValue 2 = .ok (.putfield 271, 3) := by decide +kernel
theorem dX10_findValue_5 : decode cX10_findValue 5 = .ok (.aload_n 0, 1) := by decide +kernel
theorem dX10_findValue_6 : decode cX10_findValue 6 = .ok (.lconst 0, 1) := by decide +kernel
theorem dX10_findValue_7 : decode cX10_findValue 7 = .ok (.putfield 275, 3) := by decide +kernel
theorem dX10_findValue_10 : decode cX10_findValue 10 = .ok (.iconst 0, 1) := by decide +kernel
theorem dX10_findValue_11 : decode cX10_findValue 11 = .ok (.istore_n 2, 1) := by decide +kernel
theorem dX10_findValue_12 : decode cX10_findValue 12 = .ok (.iload_n 2, 1) := by decide +kernel
theorem dX10_findValue_13 : decode cX10_findValue 13 = .ok (.aload_n 0, 1) := by decide +kernel
theorem dX10_findValue_14 : decode cX10_findValue 14 = .ok (.getfield 97, 3) := by decide +kernel
theorem dX10_findValue_17 : decode cX10_findValue 17 = .ok (.if_icmp .ge 58, 3) := by decide +kernel
theorem dX10_findValue_20 : decode cX10_findValue 20 = .ok (.aload_n 0, 1) := by decide +kernel
theorem dX10_findValue_21 : decode cX10_findValue 21 = .ok (.iload_n 1, 1) := by decide +kernel
theorem dX10_findValue_22 : decode cX10_findValue 22 = .ok (.iconst 2, 1) := by decide +kernel
theorem dX10_findValue_23 : decode cX10_findValue 23 = .ok (.iload_n 2, 1) := by decide +kernel
theorem dX10_findValue_24 : decode cX10_findValue 24 = .ok (.iadd, 1) := by decide +kernel
theorem dX10_findValue_25 : decode cX10_findValue 25 = .ok (.aload_n 0, 1) := by decide +kernel
theorem dX10_findValue_26 : decode cX10_findValue 26 = .ok (.getfield 7, 3) := by decide +kernel
theorem dX10_findValue_29 : decode cX10_findValue 29 = .ok (.invokevirtual 268, 3) := by decide +kernel
theorem dX10_findValue_32 : decode cX10_findValue 32 = .ok (.aload_n 0, 1) := by decide +kernel
theorem dX10_findValue_33 : decode cX10_findValue 33 = .ok (.dup, 1) := by decide +kernel
theorem dX10_findValue_34 : decode cX10_findValue 34 = .ok (.getfield 271, 3) := by decide +kernel
theorem dX10_findValue_37 : decode cX10_findValue 37 = .ok (.aload_n 0, 1) := by decide +kernel
theorem dX10_findValue_38 : decode cX10_findValue 38 = .ok (.getfield 29, 3) := by decide +kernel
theorem dX10_findValue_41 : decode cX10_findValue 41 = .ok (.iload_n 2, 1) := by decide +kernel
theorem dX10_findValue_42 : decode cX10_findValue 42 = .ok (.iaload, 1) := by decide +kernel
theorem dX10_findValue_43 : decode cX10_findValue 43 = .ok (.aload_n 0, 1) := by decide +kernel
theorem dX10_findValue_44 : decode cX10_findValue 44 = .ok (.getfield 256, 3) := by decide +kernel
theorem dX10_findValue_47 : decode cX10_findValue 47 = .ok (.imul, 1) := by decide +kernel
theorem dX10_findValue_48 : decode cX10_findValue 48 = .ok (.i2l, 1) := by decide +kernel
theorem dX10_findValue_49 : decode cX10_findValue 49 = .ok (.ladd, 1) := by decide +kernel
theorem dX10_findValue_50 : decode cX10_findValue 50 = .ok (.putfield 271, 3) := by decide +kernel
theorem dX10_findValue_53 : decode cX10_findValue 53 = .ok (.aload_n 0, 1) := by decide +kernel
theorem dX10_findValue_54 : decode cX10_findValue 54 = .ok (.dup, 1) := by decide +kernel
theorem dX10_findValue_55 : decode cX10_findValue 55 = .ok (.getfield 275, 3) := by decide +kernel
theorem dX10_findValue_58 : decode cX10_findValue 58 = .ok (.aload_n 0, 1) := by decide +kernel
theorem dX10_findValue_59 : decode cX10_findValue 59 = .ok (.getfield 29, 3) := by decide +kernel
theorem dX10_findValue_62 : decode cX10_findValue 62 = .ok (.iload_n 2, 1) := by decide +kernel
theorem dX10_findValue_63 : decode cX10_findValue 63 = .ok (.iaload, 1) := by decide +kernel
theorem dX10_findValue_64 : decode cX10_findValue 64 = .ok (.i2l, 1) := by decide +kernel
theorem dX10_findValue_65 : decode cX10_findValue 65 = .ok (.ladd, 1) := by decide +kernel
theorem dX10_findValue_66 : decode cX10_findValue 66 = .ok (.putfield 275, 3) := by decide +kernel
theorem dX10_findValue_69 : decode cX10_findValue 69 = .ok (.iinc 2 1, 3) := by decide +kernel
theorem dX10_findValue_72 : decode cX10_findValue 72 = .ok (.goto (-60), 3) := by decide +kernel
theorem dX10_findValue_75 : decode cX10_findValue 75 = .ok (.return_, 1) := by decide +kernel
theorem dX10_value_0 : decode cX10_value 0 = .ok (.iload_n 1, 1) := by decide +kernel
theorem dX10_value_1 : decode cX10_value 1 = .ok (.iconst 0, 1) := by decide +kernel
theorem dX10_value_2 : decode cX10_value 2 = .ok (.iconst 2, 1) := by decide +kernel
theorem dX10_value_3 : decode cX10_value 3 = .ok (.invokestatic 87, 3) := by decide +kernel
theorem dX10_value_6 : decode cX10_value 6 = .ok (.ifCond .eq 12, 3) := by decide +kernel
theorem dX10_value_9 : decode cX10_value 9 = .ok (.iload_n 2, 1) := by decide +kernel
theorem dX10_value_10 : decode cX10_value 10 = .ok (.iconst 0, 1) := by decide +kernel
theorem dX10_value_11 : decode cX10_value 11 = .ok (.iconst 1, 1) := by decide +kernel
theorem dX10_value_12 : decode cX10_value 12 = .ok (.invokestatic 87, 3) := by decide +kernel
theorem dX10_value_15 : decode cX10_value 15 = .ok (.ifCond .ne 6, 3) := by decide +kernel
theorem dX10_value_18 : decode cX10_value 18 = .ok (.bipush (-3), 2) := by decide +kernel
theorem dX10_value_20 : decode cX10_value 20 = .ok (.ireturn, 1) := by decide +kernel
theorem dX10_value_21 : decode cX10_value 21 = .ok (.aload_n 0, 1) := by decide +kernel
theorem dX10_value_22 : decode cX10_value 22 = .ok (.getfield 97, 3) := by decide +kernel
theorem dX10_value_25 : decode cX10_value 25 = .ok (.ifCond .ne 5, 3) := by decide +kernel
theorem dX10_value_28 : decode cX10_value 28 = .ok (.iconst (-1), 1) := by decide +kernel
theorem dX10_value_29 : decode cX10_value 29 = .ok (.ireturn, 1) := by decide +kernel
theorem dX10_value_30 : decode cX10_value 30 = .ok (.aload_n 0, 1) := by decide +kernel
theorem dX10_value_31 : decode cX10_value 31 = .ok (.iload_n 1, 1) := by decide +kernel
theorem dX10_value_32 : decode cX10_value 32 = .ok (.invokevirtual 278, 3) := by decide +kernel
theorem dX10_value_35 : decode cX10_value 35 = .ok (.aload_n 0, 1) := by decide +kernel
theorem dX10_value_36 : decode cX10_value 36 = .ok (.getfield 271, 3) := by decide +kernel
theorem dX10_value_39 : decode cX10_value 39 = .ok (.aload_n 0, 1) := by decide +kernel
theorem dX10_value_40 : decode cX10_value 40 = .ok (.getfield 275, 3) := by decide +kernel
theorem dX10_value_43 : decode cX10_value 43 = .ok (.invokestatic 281, 3) := by decide +kernel
theorem dX10_value_46 : decode cX10_value 46 = .ok (.lstore_n 3, 1) := by decide +kernel
theorem dX10_value_47 : decode cX10_value 47 = .ok (.iload_n 2, 1) := by decide +kernel
theorem dX10_value_48 : decode cX10_value 48 = .ok (.ifCond .ne 10, 3) := by decide +kernel
theorem dX10_value_51 : decode cX10_value 51 = .ok (.aload_n 0, 1) := by decide +kernel
theorem dX10_value_52 : decode cX10_value 52 = .ok (.getfield 271, 3) := by decide +kernel
theorem dX10_value_55 : decode cX10_value 55 = .ok (.goto 7, 3) := by decide +kernel
theorem dX10_value_58 : decode cX10_value 58 = .ok (.aload_n 0, 1) := by decide +kernel
theorem dX10_value_59 : decode cX10_value 59 = .ok (.getfield 275, 3) := by decide +kernel
theorem dX10_value_62 : decode cX10_value 62 = .ok (.lload_n 3, 1) := by decide +kernel
theorem dX10_value_63 : decode cX10_value 63 = .ok (.ldiv, 1) := by decide +kernel
theorem dX10_value_64 : decode cX10_value 64 = .ok (.l2i, 1) := by decide +kernel
theorem dX10_value_65 : decode cX10_value 65 = .ok (.ireturn, 1) := by decide +kernel
theorem dX10_sure_0 : decode cX10_sure 0 = .ok (.iload_n 1, 1) := by decide +kernel
theorem dX10_sure_1 : decode cX10_sure 1 = .ok (.iconst 0, 1) := by decide +kernel
theorem dX10_sure_2 : decode cX10_sure 2 = .ok (.iconst 2, 1) := by decide +kernel
theorem dX10_sure_3 : decode cX10_sure 3 = .ok (.invokestatic 87, 3) := by decide +kernel
theorem dX10_sure_6 : decode cX10_sure 6 = .ok (.ifCond .ne 6, 3) := by decide +kernel
theorem dX10_sure_9 : decode cX10_sure 9 = .ok (.bipush (-3), 2) := by decide +kernel
theorem dX10_sure_11 : decode cX10_sure 11 = .ok (.ireturn, 1) := by decide +kernel
theorem dX10_sure_12 : decode cX10_sure 12 = .ok (.iconst (-1), 1) := by decide +kernel
theorem dX10_sure_13 : decode cX10_sure 13 = .ok (.istore_n 2, 1) := by decide +kernel
theorem dX10_sure_14 : decode cX10_sure 14 = .ok (.iconst 0, 1) := by decide +kernel
theorem dX10_sure_15 : decode cX10_sure 15 = .ok (.istore_n 3, 1) := by decide +kernel
theorem dX10_sure_16 : decode cX10_sure 16 = .ok (.iload_n 3, 1) := by decide +kernel
theorem dX10_sure_17 : decode cX10_sure 17 = .ok (.aload_n 0, 1) := by decide +kernel
theorem dX10_sure_18 : decode cX10_sure 18 = .ok (.getfield 97, 3) := by decide +kernel
theorem dX10_sure_21 : decode cX10_sure 21 = .ok (.if_icmp .ge 43, 3) := by decide +kernel
theorem dX10_sure_24 : decode cX10_sure 24 = .ok (.aload_n 0, 1) := by decide +kernel
theorem dX10_sure_25 : decode cX10_sure 25 = .ok (.iload_n 1, 1) := by decide +kernel
theorem dX10_sure_26 : decode cX10_sure 26 = .ok (.iconst 2, 1) := by decide +kernel
theorem dX10_sure_27 : decode cX10_sure 27 = .ok (.iload_n 3, 1) := by decide +kernel
theorem dX10_sure_28 : decode cX10_sure 28 = .ok (.iadd, 1) := by decide +kernel
theorem dX10_sure_29 : decode cX10_sure 29 = .ok (.aload_n 0, 1) := by decide +kernel
theorem dX10_sure_30 : decode cX10_sure 30 = .ok (.getfield 7, 3) := by decide +kernel
theorem dX10_sure_33 : decode cX10_sure 33 = .ok (.invokevirtual 268, 3) := by decide +kernel
theorem dX10_sure_36 : decode cX10_sure 36 = .ok (.iload_n 2, 1) := by decide +kernel
theorem dX10_sure_37 : decode cX10_sure 37 = .ok (.iconst (-1), 1) := by decide +kernel
theorem dX10_sure_38 : decode cX10_sure 38 = .ok (.if_icmp .eq 11, 3) := by decide +kernel
theorem dX10_sure_41 : decode cX10_sure 41 = .ok (.aload_n 0, 1) := by decide +kernel
theorem dX10_sure_42 : decode cX10_sure 42 = .ok (.getfield 256, 3) := by decide +kernel
theorem dX10_sure_45 : decode cX10_sure 45 = .ok (.iload_n 2, 1) := by decide +kernel
theorem dX10_sure_46 : decode cX10_sure 46 = .ok (.if_icmp .ge 10, 3) := by decide +kernel
theorem dX10_sure_49 : decode cX10_sure 49 = .ok (.aload_n 0, 1) := by decide +kernel
theorem dX10_sure_50 : decode cX10_sure 50 = .ok (.getfield 256, 3) := by decide +kernel
theorem dX10_sure_53 : decode cX10_sure 53 = .ok (.goto 4, 3) := by decide +kernel
theorem dX10_sure_56 : decode cX10_sure 56 = .ok (.iload_n 2, 1) := by decide +kernel
theorem dX10_sure_57 : decode cX10_sure 57 = .ok (.istore_n 2, 1) := by decide +kernel
theorem dX10_sure_58 : decode cX10_sure 58 = .ok (.iinc 3 1, 3) := by decide +kernel
theorem dX10_sure_61 : decode cX10_sure 61 = .ok (.goto (-45), 3) := by decide +kernel
theorem dX10_sure_64 : decode cX10_sure 64 = .ok (.iload_n 2, 1) := by decide +kernel
theorem dX10_sure_65 : decode cX10_sure 65 = .ok (.ireturn, 1) := by decide +kernel
theorem dX10_rule_0 : decode cX10_rule 0 = .ok (.iconst (-1), 1) := by decide +kernel
theorem dX10_rule_1 : decode cX10_rule 1 = .ok (.istore_n 1, 1) := by decide +kernel
theorem dX10_rule_2 : decode cX10_rule 2 = .ok (.lconst 0, 1) := by decide +kernel
theorem dX10_rule_3 : decode cX10_rule 3 = .ok (.lstore_n 2, 1) := by decide +kernel
theorem dX10_rule_4 : decode cX10_rule 4 = .ok (.iconst 0, 1) := by decide +kernel
theorem dX10_rule_5 : decode cX10_rule 5 = .ok (.istore 4, 2) := by decide +kernel
theorem dX10_rule_7 : decode cX10_rule 7 = .ok (.iload 4, 2) := by decide +kernel
theorem dX10_rule_9 : decode cX10_rule 9 = .ok (.iconst 3, 1) := by decide +kernel
theorem dX10_rule_10 : decode cX10_rule 10 = .ok (.if_icmp .ge 61, 3) := by decide +kernel
theorem dX10_rule_13 : decode cX10_rule 13 = .ok (.aload_n 0, 1) := by decide +kernel
theorem dX10_rule_14 : decode cX10_rule 14 = .ok (.getfield 97, 3) := by decide +kernel
theorem dX10_rule_17 : decode cX10_rule 17 = .ok (.ifCond .le 54, 3) := by decide +kernel
theorem dX10_rule_20 : decode cX10_rule 20 = .ok (.aload_n 0, 1) := by decide +kernel
theorem dX10_rule_21 : decode cX10_rule 21 = .ok (.iload 4, 2) := by decide +kernel
theorem dX10_rule_23 : decode cX10_rule 23 = .ok (.invokevirtual 278, 3) := by decide +kernel
theorem dX10_rule_26 : decode cX10_rule 26 = .ok (.iload_n 1, 1) := by decide +kernel
theorem dX10_rule_27 : decode cX10_rule 27 = .ok (.iconst (-1), 1) := by decide +kernel
theorem dX10_rule_28 : decode cX10_rule 28 = .ok (.if_icmp .eq 12, 3) := by decide +kernel
theorem dX10_rule_31 : decode cX10_rule 31 = .ok (.aload_n 0, 1) := by decide +kernel
theorem dX10_rule_32 : decode cX10_rule 32 = .ok (.getfield 271, 3) := by decide +kernel
theorem dX10_rule_35 : decode cX10_rule 35 = .ok (.lload_n 2, 1) := by decide +kernel
theorem dX10_rule_36 : decode cX10_rule 36 = .ok (.lcmp, 1) := by decide +kernel
theorem dX10_rule_37 : decode cX10_rule 37 = .ok (.ifCond .le 8, 3) := by decide +kernel
theorem dX10_rule_40 : decode cX10_rule 40 = .ok (.iload 4, 2) := by decide +kernel
theorem dX10_rule_42 : decode cX10_rule 42 = .ok (.goto 4, 3) := by decide +kernel
theorem dX10_rule_45 : decode cX10_rule 45 = .ok (.iload_n 1, 1) := by decide +kernel
theorem dX10_rule_46 : decode cX10_rule 46 = .ok (.istore_n 1, 1) := by decide +kernel
theorem dX10_rule_47 : decode cX10_rule 47 = .ok (.aload_n 0, 1) := by decide +kernel
theorem dX10_rule_48 : decode cX10_rule 48 = .ok (.getfield 271, 3) := by decide +kernel
theorem dX10_rule_51 : decode cX10_rule 51 = .ok (.lload_n 2, 1) := by decide +kernel
theorem dX10_rule_52 : decode cX10_rule 52 = .ok (.lcmp, 1) := by decide +kernel
theorem dX10_rule_53 : decode cX10_rule 53 = .ok (.ifCond .le 10, 3) := by decide +kernel
theorem dX10_rule_56 : decode cX10_rule 56 = .ok (.aload_n 0, 1) := by decide +kernel
theorem dX10_rule_57 : decode cX10_rule 57 = .ok (.getfield 271, 3) := by decide +kernel
theorem dX10_rule_60 : decode cX10_rule 60 = .ok (.goto 4, 3) := by decide +kernel
theorem dX10_rule_63 : decode cX10_rule 63 = .ok (.lload_n 2, 1) := by decide +kernel
theorem dX10_rule_64 : decode cX10_rule 64 = .ok (.lstore_n 2, 1) := by decide +kernel
theorem dX10_rule_65 : decode cX10_rule 65 = .ok (.iinc 4 1, 3) := by decide +kernel
theorem dX10_rule_68 : decode cX10_rule 68 = .ok (.goto (-61), 3) := by decide +kernel
theorem dX10_rule_71 : decode cX10_rule 71 = .ok (.iload_n 1, 1) := by decide +kernel
theorem dX10_rule_72 : decode cX10_rule 72 = .ok (.ireturn, 1) := by decide +kernel
theorem dX10_findAlert_0 : decode cX10_findAlert 0 = .ok (.aload_n 0, 1) := by decide +kernel
theorem dX10_findAlert_1 : decode cX10_findAlert 1 = .ok (.invokevirtual 237, 3) := by decide +kernel
theorem dX10_findAlert_4 : decode cX10_findAlert 4 = .ok (.aload_n 0, 1) := by decide +kernel
theorem dX10_findAlert_5 : decode cX10_findAlert 5 = .ok (.invokevirtual 240, 3) := by decide +kernel
theorem dX10_findAlert_8 : decode cX10_findAlert 8 = .ok (.aload_n 0, 1) := by decide +kernel
theorem dX10_findAlert_9 : decode cX10_findAlert 9 = .ok (.getfield 228, 3) := by decide +kernel
theorem dX10_findAlert_12 : decode cX10_findAlert 12 = .ok (.istore 6, 2) := by decide +kernel
theorem dX10_findAlert_14 : decode cX10_findAlert 14 = .ok (.aload_n 0, 1) := by decide +kernel
theorem dX10_findAlert_15 : decode cX10_findAlert 15 = .ok (.iconst (-1), 1) := by decide +kernel
theorem dX10_findAlert_16 : decode cX10_findAlert 16 = .ok (.putfield 285, 3) := by decide +kernel
theorem dX10_findAlert_19 : decode cX10_findAlert 19 = .ok (.aload_n 0, 1) := by decide +kernel
theorem dX10_findAlert_20 : decode cX10_findAlert 20 = .ok (.iconst (-1), 1) := by decide +kernel
theorem dX10_findAlert_21 : decode cX10_findAlert 21 = .ok (.putfield 288, 3) := by decide +kernel
theorem dX10_findAlert_24 : decode cX10_findAlert 24 = .ok (.iload 4, 2) := by decide +kernel
theorem dX10_findAlert_26 : decode cX10_findAlert 26 = .ok (.istore 7, 2) := by decide +kernel
theorem dX10_findAlert_28 : decode cX10_findAlert 28 = .ok (.iload 7, 2) := by decide +kernel
theorem dX10_findAlert_30 : decode cX10_findAlert 30 = .ok (.iload 5, 2) := by decide +kernel
theorem dX10_findAlert_32 : decode cX10_findAlert 32 = .ok (.if_icmp .gt 219, 3) := by decide +kernel
theorem dX10_findAlert_35 : decode cX10_findAlert 35 = .ok (.iconst 0, 1) := by decide +kernel
theorem dX10_findAlert_36 : decode cX10_findAlert 36 = .ok (.istore 8, 2) := by decide +kernel
theorem dX10_findAlert_38 : decode cX10_findAlert 38 = .ok (.iload 7, 2) := by decide +kernel
theorem dX10_findAlert_40 : decode cX10_findAlert 40 = .ok (.iload_n 3, 1) := by decide +kernel
theorem dX10_findAlert_41 : decode cX10_findAlert 41 = .ok (.sipush 1000, 3) := by decide +kernel
theorem dX10_findAlert_44 : decode cX10_findAlert 44 = .ok (.idiv, 1) := by decide +kernel
theorem dX10_findAlert_45 : decode cX10_findAlert 45 = .ok (.iadd, 1) := by decide +kernel
theorem dX10_findAlert_46 : decode cX10_findAlert 46 = .ok (.aload_n 0, 1) := by decide +kernel
theorem dX10_findAlert_47 : decode cX10_findAlert 47 = .ok (.getfield 7, 3) := by decide +kernel
theorem dX10_findAlert_50 : decode cX10_findAlert 50 = .ok (.if_icmp .gt 7, 3) := by decide +kernel
theorem dX10_findAlert_53 : decode cX10_findAlert 53 = .ok (.iconst 1, 1) := by decide +kernel
theorem dX10_findAlert_54 : decode cX10_findAlert 54 = .ok (.goto 4, 3) := by decide +kernel
theorem dX10_findAlert_57 : decode cX10_findAlert 57 = .ok (.iconst 0, 1) := by decide +kernel
theorem dX10_findAlert_58 : decode cX10_findAlert 58 = .ok (.istore 9, 2) := by decide +kernel
theorem dX10_findAlert_60 : decode cX10_findAlert 60 = .ok (.iload 7, 2) := by decide +kernel
theorem dX10_findAlert_62 : decode cX10_findAlert 62 = .ok (.istore 10, 2) := by decide +kernel
theorem dX10_findAlert_64 : decode cX10_findAlert 64 = .ok (.iload 10, 2) := by decide +kernel
theorem dX10_findAlert_66 : decode cX10_findAlert 66 = .ok (.iload 7, 2) := by decide +kernel
theorem dX10_findAlert_68 : decode cX10_findAlert 68 = .ok (.iload_n 3, 1) := by decide +kernel
theorem dX10_findAlert_69 : decode cX10_findAlert 69 = .ok (.sipush 1000, 3) := by decide +kernel
theorem dX10_findAlert_72 : decode cX10_findAlert 72 = .ok (.idiv, 1) := by decide +kernel
theorem dX10_findAlert_73 : decode cX10_findAlert 73 = .ok (.iadd, 1) := by decide +kernel
theorem dX10_findAlert_74 : decode cX10_findAlert 74 = .ok (.if_icmp .ge 51, 3) := by decide +kernel
theorem dX10_findAlert_77 : decode cX10_findAlert 77 = .ok (.iload 9, 2) := by decide +kernel
theorem dX10_findAlert_79 : decode cX10_findAlert 79 = .ok (.ifCond .eq 46, 3) := by decide +kernel
theorem dX10_findAlert_82 : decode cX10_findAlert 82 = .ok (.aload_n 0, 1) := by decide +kernel
theorem dX10_findAlert_83 : decode cX10_findAlert 83 = .ok (.iload_n 1, 1) := by decide +kernel
theorem dX10_findAlert_84 : decode cX10_findAlert 84 = .ok (.iload 10, 2) := by decide +kernel
theorem dX10_findAlert_86 : decode cX10_findAlert 86 = .ok (.iconst 0, 1) := by decide +kernel
theorem dX10_findAlert_87 : decode cX10_findAlert 87 = .ok (.iload_n 3, 1) := by decide +kernel
theorem dX10_findAlert_88 : decode cX10_findAlert 88 = .ok (.bipush 100, 2) := by decide +kernel
theorem dX10_findAlert_90 : decode cX10_findAlert 90 = .ok (.idiv, 1) := by decide +kernel
theorem dX10_findAlert_91 : decode cX10_findAlert 91 = .ok (.bipush 10, 2) := by decide +kernel
theorem dX10_findAlert_93 : decode cX10_findAlert 93 = .ok (.irem, 1) := by decide +kernel
theorem dX10_findAlert_94 : decode cX10_findAlert 94 = .ok (.iload_n 3, 1) := by decide +kernel
theorem dX10_findAlert_95 : decode cX10_findAlert 95 = .ok (.bipush 10, 2) := by decide +kernel
theorem dX10_findAlert_97 : decode cX10_findAlert 97 = .ok (.idiv, 1) := by decide +kernel
theorem dX10_findAlert_98 : decode cX10_findAlert 98 = .ok (.bipush 10, 2) := by decide +kernel
theorem dX10_findAlert_100 : decode cX10_findAlert 100 = .ok (.irem, 1) := by decide +kernel
theorem dX10_findAlert_101 : decode cX10_findAlert 101 = .ok (.iload_n 3, 1) := by decide +kernel
theorem dX10_findAlert_102 : decode cX10_findAlert 102 = .ok (.bipush 10, 2) := by decide +kernel
theorem dX10_findAlert_104 : decode cX10_findAlert 104 = .ok (.irem, 1) := by decide +kernel
theorem dX10_findAlert_105 : decode cX10_findAlert 105 = .ok (.invokevirtual 198, 3) := by decide +kernel
theorem dX10_findAlert_108 : decode cX10_findAlert 108 = .ok (.istore 9, 2) := by decide +kernel
theorem dX10_findAlert_110 : decode cX10_findAlert 110 = .ok (.iload 8, 2) := by decide +kernel
theorem dX10_findAlert_112 : decode cX10_findAlert 112 = .ok (.iconst 1, 1) := by decide +kernel
theorem dX10_findAlert_113 : decode cX10_findAlert 113 = .ok (.iload 10, 2) := by decide +kernel
theorem dX10_findAlert_115 : decode cX10_findAlert 115 = .ok (.ishl, 1) := by decide +kernel
theorem dX10_findAlert_116 : decode cX10_findAlert 116 = .ok (.ior, 1) := by decide +kernel
theorem dX10_findAlert_117 : decode cX10_findAlert 117 = .ok (.istore 8, 2) := by decide +kernel
theorem dX10_findAlert_119 : decode cX10_findAlert 119 = .ok (.iinc 10 1, 3) := by decide +kernel
theorem dX10_findAlert_122 : decode cX10_findAlert 122 = .ok (.goto (-58), 3) := by decide +kernel
theorem dX10_findAlert_125 : decode cX10_findAlert 125 = .ok (.iload 9, 2) := by decide +kernel
theorem dX10_findAlert_127 : decode cX10_findAlert 127 = .ok (.ifCond .eq 118, 3) := by decide +kernel
theorem dX10_findAlert_130 : decode cX10_findAlert 130 = .ok (.iconst 0, 1) := by decide +kernel
theorem dX10_findAlert_131 : decode cX10_findAlert 131 = .ok (.istore 10, 2) := by decide +kernel
theorem dX10_findAlert_133 : decode cX10_findAlert 133 = .ok (.iload 10, 2) := by decide +kernel
theorem dX10_findAlert_135 : decode cX10_findAlert 135 = .ok (.aload_n 0, 1) := by decide +kernel
theorem dX10_findAlert_136 : decode cX10_findAlert 136 = .ok (.getfield 94, 3) := by decide +kernel
theorem dX10_findAlert_139 : decode cX10_findAlert 139 = .ok (.if_icmp .ge 63, 3) := by decide +kernel
theorem dX10_findAlert_142 : decode cX10_findAlert 142 = .ok (.iconst 0, 1) := by decide +kernel
theorem dX10_findAlert_143 : decode cX10_findAlert 143 = .ok (.istore 11, 2) := by decide +kernel
theorem dX10_findAlert_145 : decode cX10_findAlert 145 = .ok (.iload 11, 2) := by decide +kernel
theorem dX10_findAlert_147 : decode cX10_findAlert 147 = .ok (.aload_n 0, 1) := by decide +kernel
theorem dX10_findAlert_148 : decode cX10_findAlert 148 = .ok (.getfield 50, 3) := by decide +kernel
theorem dX10_findAlert_151 : decode cX10_findAlert 151 = .ok (.iload 10, 2) := by decide +kernel
theorem dX10_findAlert_153 : decode cX10_findAlert 153 = .ok (.iaload, 1) := by decide +kernel
theorem dX10_findAlert_154 : decode cX10_findAlert 154 = .ok (.if_icmp .ge 42, 3) := by decide +kernel
theorem dX10_findAlert_157 : decode cX10_findAlert 157 = .ok (.aload_n 0, 1) := by decide +kernel
theorem dX10_findAlert_158 : decode cX10_findAlert 158 = .ok (.getfield 59, 3) := by decide +kernel
theorem dX10_findAlert_161 : decode cX10_findAlert 161 = .ok (.sipush 200, 3) := by decide +kernel
theorem dX10_findAlert_164 : decode cX10_findAlert 164 = .ok (.iload 10, 2) := by decide +kernel
theorem dX10_findAlert_166 : decode cX10_findAlert 166 = .ok (.imul, 1) := by decide +kernel
theorem dX10_findAlert_167 : decode cX10_findAlert 167 = .ok (.iload 11, 2) := by decide +kernel
theorem dX10_findAlert_169 : decode cX10_findAlert 169 = .ok (.iadd, 1) := by decide +kernel
theorem dX10_findAlert_170 : decode cX10_findAlert 170 = .ok (.aload_n 0, 1) := by decide +kernel
theorem dX10_findAlert_171 : decode cX10_findAlert 171 = .ok (.iload 10, 2) := by decide +kernel
theorem dX10_findAlert_173 : decode cX10_findAlert 173 = .ok (.iload 11, 2) := by decide +kernel
theorem dX10_findAlert_175 : decode cX10_findAlert 175 = .ok (.iload 8, 2) := by decide +kernel
theorem dX10_findAlert_177 : decode cX10_findAlert 177 = .ok (.iload_n 2, 1) := by decide +kernel
theorem dX10_findAlert_178 : decode cX10_findAlert 178 = .ok (.invokevirtual 219, 3) := by decide +kernel
theorem dX10_findAlert_181 : decode cX10_findAlert 181 = .ok (.ifCond .ne 7, 3) := by decide +kernel
theorem dX10_findAlert_184 : decode cX10_findAlert 184 = .ok (.iconst 1, 1) := by decide +kernel
theorem dX10_findAlert_185 : decode cX10_findAlert 185 = .ok (.goto 4, 3) := by decide +kernel
theorem dX10_findAlert_188 : decode cX10_findAlert 188 = .ok (.iconst 0, 1) := by decide +kernel
theorem dX10_findAlert_189 : decode cX10_findAlert 189 = .ok (.bastore, 1) := by decide +kernel
theorem dX10_findAlert_190 : decode cX10_findAlert 190 = .ok (.iinc 11 1, 3) := by decide +kernel
theorem dX10_findAlert_193 : decode cX10_findAlert 193 = .ok (.goto (-48), 3) := by decide +kernel
theorem dX10_findAlert_196 : decode cX10_findAlert 196 = .ok (.iinc 10 1, 3) := by decide +kernel
theorem dX10_findAlert_199 : decode cX10_findAlert 199 = .ok (.goto (-66), 3) := by decide +kernel
theorem dX10_findAlert_202 : decode cX10_findAlert 202 = .ok (.aload_n 0, 1) := by decide +kernel
theorem dX10_findAlert_203 : decode cX10_findAlert 203 = .ok (.invokevirtual 240, 3) := by decide +kernel
theorem dX10_findAlert_206 : decode cX10_findAlert 206 = .ok (.aload_n 0, 1) := by decide +kernel
theorem dX10_findAlert_207 : decode cX10_findAlert 207 = .ok (.getfield 285, 3) := by decide +kernel
theorem dX10_findAlert_210 : decode cX10_findAlert 210 = .ok (.iconst (-1), 1) := by decide +kernel
theorem dX10_findAlert_211 : decode cX10_findAlert 211 = .ok (.if_icmp .eq 17, 3) := by decide +kernel
theorem dX10_findAlert_214 : decode cX10_findAlert 214 = .ok (.iload 6, 2) := by decide +kernel
theorem dX10_findAlert_216 : decode cX10_findAlert 216 = .ok (.aload_n 0, 1) := by decide +kernel
theorem dX10_findAlert_217 : decode cX10_findAlert 217 = .ok (.getfield 228, 3) := by decide +kernel
theorem dX10_findAlert_220 : decode cX10_findAlert 220 = .ok (.isub, 1) := by decide +kernel
theorem dX10_findAlert_221 : decode cX10_findAlert 221 = .ok (.aload_n 0, 1) := by decide +kernel
theorem dX10_findAlert_222 : decode cX10_findAlert 222 = .ok (.getfield 288, 3) := by decide +kernel
theorem dX10_findAlert_225 : decode cX10_findAlert 225 = .ok (.if_icmp .ge 20, 3) := by decide +kernel
theorem dX10_findAlert_228 : decode cX10_findAlert 228 = .ok (.aload_n 0, 1) := by decide +kernel
theorem dX10_findAlert_229 : decode cX10_findAlert 229 = .ok (.iload 7, 2) := by decide +kernel
theorem dX10_findAlert_231 : decode cX10_findAlert 231 = .ok (.putfield 285, 3) := by decide +kernel
theorem dX10_findAlert_234 : decode cX10_findAlert 234 = .ok (.aload_n 0, 1) := by decide +kernel
theorem dX10_findAlert_235 : decode cX10_findAlert 235 = .ok (.iload 6, 2) := by decide +kernel
theorem dX10_findAlert_237 : decode cX10_findAlert 237 = .ok (.aload_n 0, 1) := by decide +kernel
theorem dX10_findAlert_238 : decode cX10_findAlert 238 = .ok (.getfield 228, 3) := by decide +kernel
theorem dX10_findAlert_241 : decode cX10_findAlert 241 = .ok (.isub, 1) := by decide +kernel
theorem dX10_findAlert_242 : decode cX10_findAlert 242 = .ok (.putfield 288, 3) := by decide +kernel
theorem dX10_findAlert_245 : decode cX10_findAlert 245 = .ok (.iinc 7 1, 3) := by decide +kernel
theorem dX10_findAlert_248 : decode cX10_findAlert 248 = .ok (.goto (-220), 3) := by decide +kernel
theorem dX10_findAlert_251 : decode cX10_findAlert 251 = .ok (.return_, 1) := by decide +kernel
theorem dX10_alert_0 : decode cX10_alert 0 = .ok (.aload_n 0, 1) := by decide +kernel
theorem dX10_alert_1 : decode cX10_alert 1 = .ok (.iload_n 1, 1) := by decide +kernel
theorem dX10_alert_2 : decode cX10_alert 2 = .ok (.invokevirtual 107, 3) := by decide +kernel
theorem dX10_alert_5 : decode cX10_alert 5 = .ok (.ifCond .ne 6, 3) := by decide +kernel
theorem dX10_alert_8 : decode cX10_alert 8 = .ok (.bipush (-2), 2) := by decide +kernel
theorem dX10_alert_10 : decode cX10_alert 10 = .ok (.ireturn, 1) := by decide +kernel
theorem dX10_alert_11 : decode cX10_alert 11 = .ok (.iload_n 2, 1) := by decide +kernel
theorem dX10_alert_12 : decode cX10_alert 12 = .ok (.iconst 0, 1) := by decide +kernel
theorem dX10_alert_13 : decode cX10_alert 13 = .ok (.iconst 2, 1) := by decide +kernel
theorem dX10_alert_14 : decode cX10_alert 14 = .ok (.invokestatic 87, 3) := by decide +kernel
theorem dX10_alert_17 : decode cX10_alert 17 = .ok (.ifCond .eq 82, 3) := by decide +kernel
theorem dX10_alert_20 : decode cX10_alert 20 = .ok (.iload_n 3, 1) := by decide +kernel
theorem dX10_alert_21 : decode cX10_alert 21 = .ok (.sipush 1000, 3) := by decide +kernel
theorem dX10_alert_24 : decode cX10_alert 24 = .ok (.sipush 4999, 3) := by decide +kernel
theorem dX10_alert_27 : decode cX10_alert 27 = .ok (.invokestatic 87, 3) := by decide +kernel
theorem dX10_alert_30 : decode cX10_alert 30 = .ok (.ifCond .eq 69, 3) := by decide +kernel
theorem dX10_alert_33 : decode cX10_alert 33 = .ok (.iload_n 3, 1) := by decide +kernel
theorem dX10_alert_34 : decode cX10_alert 34 = .ok (.bipush 100, 2) := by decide +kernel
theorem dX10_alert_36 : decode cX10_alert 36 = .ok (.idiv, 1) := by decide +kernel
theorem dX10_alert_37 : decode cX10_alert 37 = .ok (.bipush 10, 2) := by decide +kernel
theorem dX10_alert_39 : decode cX10_alert 39 = .ok (.irem, 1) := by decide +kernel
theorem dX10_alert_40 : decode cX10_alert 40 = .ok (.iconst 3, 1) := by decide +kernel
theorem dX10_alert_41 : decode cX10_alert 41 = .ok (.if_icmp .gt 58, 3) := by decide +kernel
theorem dX10_alert_44 : decode cX10_alert 44 = .ok (.iload_n 3, 1) := by decide +kernel
theorem dX10_alert_45 : decode cX10_alert 45 = .ok (.bipush 10, 2) := by decide +kernel
theorem dX10_alert_47 : decode cX10_alert 47 = .ok (.idiv, 1) := by decide +kernel
theorem dX10_alert_48 : decode cX10_alert 48 = .ok (.bipush 10, 2) := by decide +kernel
theorem dX10_alert_50 : decode cX10_alert 50 = .ok (.irem, 1) := by decide +kernel
theorem dX10_alert_51 : decode cX10_alert 51 = .ok (.bipush 8, 2) := by decide +kernel
theorem dX10_alert_53 : decode cX10_alert 53 = .ok (.if_icmp .gt 46, 3) := by decide +kernel
theorem dX10_alert_56 : decode cX10_alert 56 = .ok (.iload_n 3, 1) := by decide +kernel
theorem dX10_alert_57 : decode cX10_alert 57 = .ok (.bipush 10, 2) := by decide +kernel
theorem dX10_alert_59 : decode cX10_alert 59 = .ok (.irem, 1) := by decide +kernel
theorem dX10_alert_60 : decode cX10_alert 60 = .ok (.iconst 1, 1) := by decide +kernel
theorem dX10_alert_61 : decode cX10_alert 61 = .ok (.if_icmp .gt 38, 3) := by decide +kernel
theorem dX10_alert_64 : decode cX10_alert 64 = .ok (.aload_n 0, 1) := by decide +kernel
theorem dX10_alert_65 : decode cX10_alert 65 = .ok (.iload 4, 2) := by decide +kernel
theorem dX10_alert_67 : decode cX10_alert 67 = .ok (.invokevirtual 111, 3) := by decide +kernel
theorem dX10_alert_70 : decode cX10_alert 70 = .ok (.ifCond .eq 29, 3) := by decide +kernel
theorem dX10_alert_73 : decode cX10_alert 73 = .ok (.aload_n 0, 1) := by decide +kernel
theorem dX10_alert_74 : decode cX10_alert 74 = .ok (.iload 5, 2) := by decide +kernel
theorem dX10_alert_76 : decode cX10_alert 76 = .ok (.invokevirtual 111, 3) := by decide +kernel
theorem dX10_alert_79 : decode cX10_alert 79 = .ok (.ifCond .eq 20, 3) := by decide +kernel
theorem dX10_alert_82 : decode cX10_alert 82 = .ok (.iload 4, 2) := by decide +kernel
theorem dX10_alert_84 : decode cX10_alert 84 = .ok (.iload 5, 2) := by decide +kernel
theorem dX10_alert_86 : decode cX10_alert 86 = .ok (.if_icmp .gt 13, 3) := by decide +kernel
theorem dX10_alert_89 : decode cX10_alert 89 = .ok (.iload 6, 2) := by decide +kernel
theorem dX10_alert_91 : decode cX10_alert 91 = .ok (.iconst 0, 1) := by decide +kernel
theorem dX10_alert_92 : decode cX10_alert 92 = .ok (.iconst 1, 1) := by decide +kernel
theorem dX10_alert_93 : decode cX10_alert 93 = .ok (.invokestatic 87, 3) := by decide +kernel
theorem dX10_alert_96 : decode cX10_alert 96 = .ok (.ifCond .ne 6, 3) := by decide +kernel
theorem dX10_alert_99 : decode cX10_alert 99 = .ok (.bipush (-3), 2) := by decide +kernel
theorem dX10_alert_101 : decode cX10_alert 101 = .ok (.ireturn, 1) := by decide +kernel
theorem dX10_alert_102 : decode cX10_alert 102 = .ok (.aload_n 0, 1) := by decide +kernel
theorem dX10_alert_103 : decode cX10_alert 103 = .ok (.iload_n 1, 1) := by decide +kernel
theorem dX10_alert_104 : decode cX10_alert 104 = .ok (.iload_n 2, 1) := by decide +kernel
theorem dX10_alert_105 : decode cX10_alert 105 = .ok (.iload_n 3, 1) := by decide +kernel
theorem dX10_alert_106 : decode cX10_alert 106 = .ok (.iload 4, 2) := by decide +kernel
theorem dX10_alert_108 : decode cX10_alert 108 = .ok (.iload 5, 2) := by decide +kernel
theorem dX10_alert_110 : decode cX10_alert 110 = .ok (.invokevirtual 291, 3) := by decide +kernel
theorem dX10_alert_113 : decode cX10_alert 113 = .ok (.iload 6, 2) := by decide +kernel
theorem dX10_alert_115 : decode cX10_alert 115 = .ok (.ifCond .ne 10, 3) := by decide +kernel
theorem dX10_alert_118 : decode cX10_alert 118 = .ok (.aload_n 0, 1) := by decide +kernel
theorem dX10_alert_119 : decode cX10_alert 119 = .ok (.getfield 285, 3) := by decide +kernel
theorem dX10_alert_122 : decode cX10_alert 122 = .ok (.goto 7, 3) := by decide +kernel
theorem dX10_alert_125 : decode cX10_alert 125 = .ok (.aload_n 0, 1) := by decide +kernel
theorem dX10_alert_126 : decode cX10_alert 126 = .ok (.getfield 288, 3) := by decide +kernel
theorem dX10_alert_129 : decode cX10_alert 129 = .ok (.ireturn, 1) := by decide +kernel
theorem dX10_share_0 : decode cX10_share 0 = .ok (.iload_n 1, 1) := by decide +kernel
theorem dX10_share_1 : decode cX10_share 1 = .ok (.iconst 0, 1) := by decide +kernel
theorem dX10_share_2 : decode cX10_share 2 = .ok (.iconst 3, 1) := by decide +kernel
theorem dX10_share_3 : decode cX10_share 3 = .ok (.invokestatic 87, 3) := by decide +kernel
theorem dX10_share_6 : decode cX10_share 6 = .ok (.ifCond .ne 6, 3) := by decide +kernel
theorem dX10_share_9 : decode cX10_share 9 = .ok (.bipush (-2), 2) := by decide +kernel
theorem dX10_share_11 : decode cX10_share 11 = .ok (.ireturn, 1) := by decide +kernel
theorem dX10_share_12 : decode cX10_share 12 = .ok (.iload_n 2, 1) := by decide +kernel
theorem dX10_share_13 : decode cX10_share 13 = .ok (.iconst 1, 1) := by decide +kernel
theorem dX10_share_14 : decode cX10_share 14 = .ok (.bipush 20, 2) := by decide +kernel
theorem dX10_share_16 : decode cX10_share 16 = .ok (.invokestatic 87, 3) := by decide +kernel
theorem dX10_share_19 : decode cX10_share 19 = .ok (.ifCond .ne 6, 3) := by decide +kernel
theorem dX10_share_22 : decode cX10_share 22 = .ok (.bipush (-3), 2) := by decide +kernel
theorem dX10_share_24 : decode cX10_share 24 = .ok (.ireturn, 1) := by decide +kernel
theorem dX10_share_25 : decode cX10_share 25 = .ok (.aload_n 0, 1) := by decide +kernel
theorem dX10_share_26 : decode cX10_share 26 = .ok (.getfield 81, 3) := by decide +kernel
theorem dX10_share_29 : decode cX10_share 29 = .ok (.iload_n 1, 1) := by decide +kernel
theorem dX10_share_30 : decode cX10_share 30 = .ok (.iaload, 1) := by decide +kernel
theorem dX10_share_31 : decode cX10_share 31 = .ok (.istore_n 3, 1) := by decide +kernel
theorem dX10_share_32 : decode cX10_share 32 = .ok (.aload_n 0, 1) := by decide +kernel
theorem dX10_share_33 : decode cX10_share 33 = .ok (.getfield 81, 3) := by decide +kernel
theorem dX10_share_36 : decode cX10_share 36 = .ok (.iload_n 1, 1) := by decide +kernel
theorem dX10_share_37 : decode cX10_share 37 = .ok (.iload_n 2, 1) := by decide +kernel
theorem dX10_share_38 : decode cX10_share 38 = .ok (.iastore, 1) := by decide +kernel
theorem dX10_share_39 : decode cX10_share 39 = .ok (.iload_n 3, 1) := by decide +kernel
theorem dX10_share_40 : decode cX10_share 40 = .ok (.ireturn, 1) := by decide +kernel
theorem dX10_close_0 : decode cX10_close 0 = .ok (.iload_n 1, 1) := by decide +kernel
theorem dX10_close_1 : decode cX10_close 1 = .ok (.iconst 0, 1) := by decide +kernel
theorem dX10_close_2 : decode cX10_close 2 = .ok (.iconst 2, 1) := by decide +kernel
theorem dX10_close_3 : decode cX10_close 3 = .ok (.invokestatic 87, 3) := by decide +kernel
theorem dX10_close_6 : decode cX10_close 6 = .ok (.ifCond .ne 6, 3) := by decide +kernel
theorem dX10_close_9 : decode cX10_close 9 = .ok (.bipush (-3), 2) := by decide +kernel
theorem dX10_close_11 : decode cX10_close 11 = .ok (.ireturn, 1) := by decide +kernel
theorem dX10_close_12 : decode cX10_close 12 = .ok (.aload_n 0, 1) := by decide +kernel
theorem dX10_close_13 : decode cX10_close 13 = .ok (.getfield 100, 3) := by decide +kernel
theorem dX10_close_16 : decode cX10_close 16 = .ok (.sipush 300, 3) := by decide +kernel
theorem dX10_close_19 : decode cX10_close 19 = .ok (.if_icmp .ne 6, 3) := by decide +kernel
theorem dX10_close_22 : decode cX10_close 22 = .ok (.bipush (-4), 2) := by decide +kernel
theorem dX10_close_24 : decode cX10_close 24 = .ok (.ireturn, 1) := by decide +kernel
theorem dX10_close_25 : decode cX10_close 25 = .ok (.aload_n 0, 1) := by decide +kernel
theorem dX10_close_26 : decode cX10_close 26 = .ok (.iload_n 1, 1) := by decide +kernel
theorem dX10_close_27 : decode cX10_close 27 = .ok (.iconst 1, 1) := by decide +kernel
theorem dX10_close_28 : decode cX10_close 28 = .ok (.aload_n 0, 1) := by decide +kernel
theorem dX10_close_29 : decode cX10_close 29 = .ok (.getfield 7, 3) := by decide +kernel
theorem dX10_close_32 : decode cX10_close 32 = .ok (.invokevirtual 268, 3) := by decide +kernel
theorem dX10_close_35 : decode cX10_close 35 = .ok (.iconst 0, 1) := by decide +kernel
theorem dX10_close_36 : decode cX10_close 36 = .ok (.istore_n 2, 1) := by decide +kernel
theorem dX10_close_37 : decode cX10_close 37 = .ok (.iload_n 2, 1) := by decide +kernel
theorem dX10_close_38 : decode cX10_close 38 = .ok (.aload_n 0, 1) := by decide +kernel
theorem dX10_close_39 : decode cX10_close 39 = .ok (.getfield 7, 3) := by decide +kernel
theorem dX10_close_42 : decode cX10_close 42 = .ok (.if_icmp .ge 61, 3) := by decide +kernel
theorem dX10_close_45 : decode cX10_close 45 = .ok (.aload_n 0, 1) := by decide +kernel
theorem dX10_close_46 : decode cX10_close 46 = .ok (.getfield 78, 3) := by decide +kernel
theorem dX10_close_49 : decode cX10_close 49 = .ok (.iload_n 2, 1) := by decide +kernel
theorem dX10_close_50 : decode cX10_close 50 = .ok (.iaload, 1) := by decide +kernel
theorem dX10_close_51 : decode cX10_close 51 = .ok (.istore_n 3, 1) := by decide +kernel
theorem dX10_close_52 : decode cX10_close 52 = .ok (.aload_n 0, 1) := by decide +kernel
theorem dX10_close_53 : decode cX10_close 53 = .ok (.getfield 84, 3) := by decide +kernel
theorem dX10_close_56 : decode cX10_close 56 = .ok (.iload_n 3, 1) := by decide +kernel
theorem dX10_close_57 : decode cX10_close 57 = .ok (.bipush 20, 2) := by decide +kernel
theorem dX10_close_59 : decode cX10_close 59 = .ok (.if_icmp .ge 18, 3) := by decide +kernel
theorem dX10_close_62 : decode cX10_close 62 = .ok (.aload_n 0, 1) := by decide +kernel
theorem dX10_close_63 : decode cX10_close 63 = .ok (.getfield 47, 3) := by decide +kernel
theorem dX10_close_66 : decode cX10_close 66 = .ok (.bipush 23, 2) := by decide +kernel
theorem dX10_close_68 : decode cX10_close 68 = .ok (.iload_n 3, 1) := by decide +kernel
theorem dX10_close_69 : decode cX10_close 69 = .ok (.bipush 10, 2) := by decide +kernel
theorem dX10_close_71 : decode cX10_close 71 = .ok (.irem, 1) := by decide +kernel
theorem dX10_close_72 : decode cX10_close 72 = .ok (.imul, 1) := by decide +kernel
theorem dX10_close_73 : decode cX10_close 73 = .ok (.iaload, 1) := by decide +kernel
theorem dX10_close_74 : decode cX10_close 74 = .ok (.goto 7, 3) := by decide +kernel
theorem dX10_close_77 : decode cX10_close 77 = .ok (.iload_n 3, 1) := by decide +kernel
theorem dX10_close_78 : decode cX10_close 78 = .ok (.bipush 16, 2) := by decide +kernel
theorem dX10_close_80 : decode cX10_close 80 = .ok (.isub, 1) := by decide +kernel
theorem dX10_close_81 : decode cX10_close 81 = .ok (.dup2, 1) := by decide +kernel
theorem dX10_close_82 : decode cX10_close 82 = .ok (.iaload, 1) := by decide +kernel
theorem dX10_close_83 : decode cX10_close 83 = .ok (.iconst 1, 1) := by decide +kernel
theorem dX10_close_84 : decode cX10_close 84 = .ok (.iadd, 1) := by decide +kernel
theorem dX10_close_85 : decode cX10_close 85 = .ok (.iastore, 1) := by decide +kernel
theorem dX10_close_86 : decode cX10_close 86 = .ok (.aload_n 0, 1) := by decide +kernel
theorem dX10_close_87 : decode cX10_close 87 = .ok (.getfield 84, 3) := by decide +kernel
theorem dX10_close_90 : decode cX10_close 90 = .ok (.bipush 7, 2) := by decide +kernel
theorem dX10_close_92 : decode cX10_close 92 = .ok (.dup2, 1) := by decide +kernel
theorem dX10_close_93 : decode cX10_close 93 = .ok (.iaload, 1) := by decide +kernel
theorem dX10_close_94 : decode cX10_close 94 = .ok (.iconst 1, 1) := by decide +kernel
theorem dX10_close_95 : decode cX10_close 95 = .ok (.iadd, 1) := by decide +kernel
theorem dX10_close_96 : decode cX10_close 96 = .ok (.iastore, 1) := by decide +kernel
theorem dX10_close_97 : decode cX10_close 97 = .ok (.iinc 2 1, 3) := by decide +kernel
theorem dX10_close_100 : decode cX10_close 100 = .ok (.goto (-63), 3) := by decide +kernel
theorem dX10_close_103 : decode cX10_close 103 = .ok (.aload_n 0, 1) := by decide +kernel
theorem dX10_close_104 : decode cX10_close 104 = .ok (.getfield 94, 3) := by decide +kernel
theorem dX10_close_107 : decode cX10_close 107 = .ok (.iconst 1, 1) := by decide +kernel
theorem dX10_close_108 : decode cX10_close 108 = .ok (.isub, 1) := by decide +kernel
theorem dX10_close_109 : decode cX10_close 109 = .ok (.istore_n 2, 1) := by decide +kernel
theorem dX10_close_110 : decode cX10_close 110 = .ok (.iload_n 2, 1) := by decide +kernel
theorem dX10_close_111 : decode cX10_close 111 = .ok (.ifCond .lt 25, 3) := by decide +kernel
theorem dX10_close_114 : decode cX10_close 114 = .ok (.aload_n 0, 1) := by decide +kernel
theorem dX10_close_115 : decode cX10_close 115 = .ok (.getfield 69, 3) := by decide +kernel
theorem dX10_close_118 : decode cX10_close 118 = .ok (.iload_n 2, 1) := by decide +kernel
theorem dX10_close_119 : decode cX10_close 119 = .ok (.iaload, 1) := by decide +kernel
theorem dX10_close_120 : decode cX10_close 120 = .ok (.bipush 8, 2) := by decide +kernel
theorem dX10_close_122 : decode cX10_close 122 = .ok (.if_icmp .ne 8, 3) := by decide +kernel
theorem dX10_close_125 : decode cX10_close 125 = .ok (.aload_n 0, 1) := by decide +kernel
theorem dX10_close_126 : decode cX10_close 126 = .ok (.iload_n 2, 1) := by decide +kernel
theorem dX10_close_127 : decode cX10_close 127 = .ok (.invokevirtual 190, 3) := by decide +kernel
theorem dX10_close_130 : decode cX10_close 130 = .ok (.iinc 2 (-1), 3) := by decide +kernel
theorem dX10_close_133 : decode cX10_close 133 = .ok (.goto (-23), 3) := by decide +kernel
theorem dX10_close_136 : decode cX10_close 136 = .ok (.aload_n 0, 1) := by decide +kernel
theorem dX10_close_137 : decode cX10_close 137 = .ok (.dup, 1) := by decide +kernel
theorem dX10_close_138 : decode cX10_close 138 = .ok (.getfield 295, 3) := by decide +kernel
theorem dX10_close_141 : decode cX10_close 141 = .ok (.aload_n 0, 1) := by decide +kernel
theorem dX10_close_142 : decode cX10_close 142 = .ok (.getfield 256, 3) := by decide +kernel
theorem dX10_close_145 : decode cX10_close 145 = .ok (.iadd, 1) := by decide +kernel
theorem dX10_close_146 : decode cX10_close 146 = .ok (.putfield 295, 3) := by decide +kernel
theorem dX10_close_149 : decode cX10_close 149 = .ok (.aload_n 0, 1) := by decide +kernel
theorem dX10_close_150 : decode cX10_close 150 = .ok (.dup, 1) := by decide +kernel
theorem dX10_close_151 : decode cX10_close 151 = .ok (.getfield 100, 3) := by decide +kernel
theorem dX10_close_154 : decode cX10_close 154 = .ok (.iconst 1, 1) := by decide +kernel
theorem dX10_close_155 : decode cX10_close 155 = .ok (.iadd, 1) := by decide +kernel
theorem dX10_close_156 : decode cX10_close 156 = .ok (.putfield 100, 3) := by decide +kernel
theorem dX10_close_159 : decode cX10_close 159 = .ok (.aload_n 0, 1) := by decide +kernel
theorem dX10_close_160 : decode cX10_close 160 = .ok (.iconst (-1), 1) := by decide +kernel
theorem dX10_close_161 : decode cX10_close 161 = .ok (.putfield 23, 3) := by decide +kernel
theorem dX10_close_164 : decode cX10_close 164 = .ok (.iconst 0, 1) := by decide +kernel
theorem dX10_close_165 : decode cX10_close 165 = .ok (.istore_n 2, 1) := by decide +kernel
theorem dX10_close_166 : decode cX10_close 166 = .ok (.iload_n 2, 1) := by decide +kernel
theorem dX10_close_167 : decode cX10_close 167 = .ok (.bipush 24, 2) := by decide +kernel
theorem dX10_close_169 : decode cX10_close 169 = .ok (.if_icmp .ge 16, 3) := by decide +kernel
theorem dX10_close_172 : decode cX10_close 172 = .ok (.aload_n 0, 1) := by decide +kernel
theorem dX10_close_173 : decode cX10_close 173 = .ok (.getfield 26, 3) := by decide +kernel
theorem dX10_close_176 : decode cX10_close 176 = .ok (.iload_n 2, 1) := by decide +kernel
theorem dX10_close_177 : decode cX10_close 177 = .ok (.iconst 1, 1) := by decide +kernel
theorem dX10_close_178 : decode cX10_close 178 = .ok (.iastore, 1) := by decide +kernel
theorem dX10_close_179 : decode cX10_close 179 = .ok (.iinc 2 1, 3) := by decide +kernel
theorem dX10_close_182 : decode cX10_close 182 = .ok (.goto (-16), 3) := by decide +kernel
theorem dX10_close_185 : decode cX10_close 185 = .ok (.aload_n 0, 1) := by decide +kernel
theorem dX10_close_186 : decode cX10_close 186 = .ok (.getfield 256, 3) := by decide +kernel
theorem dX10_close_189 : decode cX10_close 189 = .ok (.ireturn, 1) := by decide +kernel
theorem dX10_account_0 : decode cX10_account 0 = .ok (.iload_n 1, 1) := by decide +kernel
theorem dX10_account_1 : decode cX10_account 1 = .ok (.iconst 0, 1) := by decide +kernel
theorem dX10_account_2 : decode cX10_account 2 = .ok (.bipush 7, 2) := by decide +kernel
theorem dX10_account_4 : decode cX10_account 4 = .ok (.invokestatic 87, 3) := by decide +kernel
theorem dX10_account_7 : decode cX10_account 7 = .ok (.ifCond .eq 12, 3) := by decide +kernel
theorem dX10_account_10 : decode cX10_account 10 = .ok (.aload_n 0, 1) := by decide +kernel
theorem dX10_account_11 : decode cX10_account 11 = .ok (.getfield 84, 3) := by decide +kernel
theorem dX10_account_14 : decode cX10_account 14 = .ok (.iload_n 1, 1) := by decide +kernel
theorem dX10_account_15 : decode cX10_account 15 = .ok (.iaload, 1) := by decide +kernel
theorem dX10_account_16 : decode cX10_account 16 = .ok (.goto 5, 3) := by decide +kernel
theorem dX10_account_19 : decode cX10_account 19 = .ok (.bipush (-3), 2) := by decide +kernel
theorem dX10_account_21 : decode cX10_account 21 = .ok (.ireturn, 1) := by decide +kernel
theorem dX10_debtOf_0 : decode cX10_debtOf 0 = .ok (.iconst 0, 1) := by decide +kernel
theorem dX10_debtOf_1 : decode cX10_debtOf 1 = .ok (.istore_n 2, 1) := by decide +kernel
theorem dX10_debtOf_2 : decode cX10_debtOf 2 = .ok (.iconst 0, 1) := by decide +kernel
theorem dX10_debtOf_3 : decode cX10_debtOf 3 = .ok (.istore_n 3, 1) := by decide +kernel
theorem dX10_debtOf_4 : decode cX10_debtOf 4 = .ok (.iconst 0, 1) := by decide +kernel
theorem dX10_debtOf_5 : decode cX10_debtOf 5 = .ok (.istore 4, 2) := by decide +kernel
theorem dX10_debtOf_7 : decode cX10_debtOf 7 = .ok (.iload 4, 2) := by decide +kernel
theorem dX10_debtOf_9 : decode cX10_debtOf 9 = .ok (.iconst 4, 1) := by decide +kernel
theorem dX10_debtOf_10 : decode cX10_debtOf 10 = .ok (.if_icmp .ge 29, 3) := by decide +kernel
theorem dX10_debtOf_13 : decode cX10_debtOf 13 = .ok (.iload_n 2, 1) := by decide +kernel
theorem dX10_debtOf_14 : decode cX10_debtOf 14 = .ok (.aload_n 0, 1) := by decide +kernel
theorem dX10_debtOf_15 : decode cX10_debtOf 15 = .ok (.getfield 84, 3) := by decide +kernel
theorem dX10_debtOf_18 : decode cX10_debtOf 18 = .ok (.iload 4, 2) := by decide +kernel
theorem dX10_debtOf_20 : decode cX10_debtOf 20 = .ok (.iaload, 1) := by decide +kernel
theorem dX10_debtOf_21 : decode cX10_debtOf 21 = .ok (.iadd, 1) := by decide +kernel
theorem dX10_debtOf_22 : decode cX10_debtOf 22 = .ok (.istore_n 2, 1) := by decide +kernel
theorem dX10_debtOf_23 : decode cX10_debtOf 23 = .ok (.iload_n 3, 1) := by decide +kernel
theorem dX10_debtOf_24 : decode cX10_debtOf 24 = .ok (.aload_n 0, 1) := by decide +kernel
theorem dX10_debtOf_25 : decode cX10_debtOf 25 = .ok (.getfield 81, 3) := by decide +kernel
theorem dX10_debtOf_28 : decode cX10_debtOf 28 = .ok (.iload 4, 2) := by decide +kernel
theorem dX10_debtOf_30 : decode cX10_debtOf 30 = .ok (.iaload, 1) := by decide +kernel
theorem dX10_debtOf_31 : decode cX10_debtOf 31 = .ok (.iadd, 1) := by decide +kernel
theorem dX10_debtOf_32 : decode cX10_debtOf 32 = .ok (.istore_n 3, 1) := by decide +kernel
theorem dX10_debtOf_33 : decode cX10_debtOf 33 = .ok (.iinc 4 1, 3) := by decide +kernel
theorem dX10_debtOf_36 : decode cX10_debtOf 36 = .ok (.goto (-29), 3) := by decide +kernel
theorem dX10_debtOf_39 : decode cX10_debtOf 39 = .ok (.aload_n 0, 1) := by decide +kernel
theorem dX10_debtOf_40 : decode cX10_debtOf 40 = .ok (.getfield 81, 3) := by decide +kernel
theorem dX10_debtOf_43 : decode cX10_debtOf 43 = .ok (.iload_n 1, 1) := by decide +kernel
theorem dX10_debtOf_44 : decode cX10_debtOf 44 = .ok (.iaload, 1) := by decide +kernel
theorem dX10_debtOf_45 : decode cX10_debtOf 45 = .ok (.iload_n 2, 1) := by decide +kernel
theorem dX10_debtOf_46 : decode cX10_debtOf 46 = .ok (.imul, 1) := by decide +kernel
theorem dX10_debtOf_47 : decode cX10_debtOf 47 = .ok (.iload_n 3, 1) := by decide +kernel
theorem dX10_debtOf_48 : decode cX10_debtOf 48 = .ok (.aload_n 0, 1) := by decide +kernel
theorem dX10_debtOf_49 : decode cX10_debtOf 49 = .ok (.getfield 84, 3) := by decide +kernel
theorem dX10_debtOf_52 : decode cX10_debtOf 52 = .ok (.iload_n 1, 1) := by decide +kernel
theorem dX10_debtOf_53 : decode cX10_debtOf 53 = .ok (.iaload, 1) := by decide +kernel
theorem dX10_debtOf_54 : decode cX10_debtOf 54 = .ok (.imul, 1) := by decide +kernel
theorem dX10_debtOf_55 : decode cX10_debtOf 55 = .ok (.isub, 1) := by decide +kernel
theorem dX10_debtOf_56 : decode cX10_debtOf 56 = .ok (.ireturn, 1) := by decide +kernel
theorem dX10_debt_0 : decode cX10_debt 0 = .ok (.iload_n 1, 1) := by decide +kernel
theorem dX10_debt_1 : decode cX10_debt 1 = .ok (.iconst 0, 1) := by decide +kernel
theorem dX10_debt_2 : decode cX10_debt 2 = .ok (.iconst 3, 1) := by decide +kernel
theorem dX10_debt_3 : decode cX10_debt 3 = .ok (.invokestatic 87, 3) := by decide +kernel
theorem dX10_debt_6 : decode cX10_debt 6 = .ok (.ifCond .eq 11, 3) := by decide +kernel
theorem dX10_debt_9 : decode cX10_debt 9 = .ok (.aload_n 0, 1) := by decide +kernel
theorem dX10_debt_10 : decode cX10_debt 10 = .ok (.iload_n 1, 1) := by decide +kernel
theorem dX10_debt_11 : decode cX10_debt 11 = .ok (.invokevirtual 298, 3) := by decide +kernel
theorem dX10_debt_14 : decode cX10_debt 14 = .ok (.goto 6, 3) := by decide +kernel
theorem dX10_debt_17 : decode cX10_debt 17 = .ok (.ldc_w 301, 3) := by decide +kernel
theorem dX10_debt_20 : decode cX10_debt 20 = .ok (.ireturn, 1) := by decide +kernel
theorem dX10_next_0 : decode cX10_next 0 = .ok (.iconst 0, 1) := by decide +kernel
theorem dX10_next_1 : decode cX10_next 1 = .ok (.istore_n 1, 1) := by decide +kernel
theorem dX10_next_2 : decode cX10_next 2 = .ok (.iconst 1, 1) := by decide +kernel
theorem dX10_next_3 : decode cX10_next 3 = .ok (.istore_n 2, 1) := by decide +kernel
theorem dX10_next_4 : decode cX10_next 4 = .ok (.iload_n 2, 1) := by decide +kernel
theorem dX10_next_5 : decode cX10_next 5 = .ok (.iconst 4, 1) := by decide +kernel
theorem dX10_next_6 : decode cX10_next 6 = .ok (.if_icmp .ge 28, 3) := by decide +kernel
theorem dX10_next_9 : decode cX10_next 9 = .ok (.aload_n 0, 1) := by decide +kernel
theorem dX10_next_10 : decode cX10_next 10 = .ok (.iload_n 2, 1) := by decide +kernel
theorem dX10_next_11 : decode cX10_next 11 = .ok (.invokevirtual 298, 3) := by decide +kernel
theorem dX10_next_14 : decode cX10_next 14 = .ok (.aload_n 0, 1) := by decide +kernel
theorem dX10_next_15 : decode cX10_next 15 = .ok (.iload_n 1, 1) := by decide +kernel
theorem dX10_next_16 : decode cX10_next 16 = .ok (.invokevirtual 298, 3) := by decide +kernel
theorem dX10_next_19 : decode cX10_next 19 = .ok (.if_icmp .le 7, 3) := by decide +kernel
theorem dX10_next_22 : decode cX10_next 22 = .ok (.iload_n 2, 1) := by decide +kernel
theorem dX10_next_23 : decode cX10_next 23 = .ok (.goto 4, 3) := by decide +kernel
theorem dX10_next_26 : decode cX10_next 26 = .ok (.iload_n 1, 1) := by decide +kernel
theorem dX10_next_27 : decode cX10_next 27 = .ok (.istore_n 1, 1) := by decide +kernel
theorem dX10_next_28 : decode cX10_next 28 = .ok (.iinc 2 1, 3) := by decide +kernel
theorem dX10_next_31 : decode cX10_next 31 = .ok (.goto (-27), 3) := by decide +kernel
theorem dX10_next_34 : decode cX10_next 34 = .ok (.iload_n 1, 1) := by decide +kernel
theorem dX10_next_35 : decode cX10_next 35 = .ok (.ireturn, 1) := by decide +kernel
theorem dX10_count_0 : decode cX10_count 0 = .ok (.iload_n 1, 1) := by decide +kernel
theorem dX10_count_1 : decode cX10_count 1 = .ok (.tableswitch 78 0 6 #[43, 48, 53, 58, 63, 68, 73], 43) := by decide +kernel
theorem dX10_count_44 : decode cX10_count 44 = .ok (.aload_n 0, 1) := by decide +kernel
theorem dX10_count_45 : decode cX10_count 45 = .ok (.getfield 7, 3) := by decide +kernel
theorem dX10_count_48 : decode cX10_count 48 = .ok (.ireturn, 1) := by decide +kernel
theorem dX10_count_49 : decode cX10_count 49 = .ok (.aload_n 0, 1) := by decide +kernel
theorem dX10_count_50 : decode cX10_count 50 = .ok (.getfield 100, 3) := by decide +kernel
theorem dX10_count_53 : decode cX10_count 53 = .ok (.ireturn, 1) := by decide +kernel
theorem dX10_count_54 : decode cX10_count 54 = .ok (.aload_n 0, 1) := by decide +kernel
theorem dX10_count_55 : decode cX10_count 55 = .ok (.getfield 91, 3) := by decide +kernel
theorem dX10_count_58 : decode cX10_count 58 = .ok (.ireturn, 1) := by decide +kernel
theorem dX10_count_59 : decode cX10_count 59 = .ok (.aload_n 0, 1) := by decide +kernel
theorem dX10_count_60 : decode cX10_count 60 = .ok (.getfield 94, 3) := by decide +kernel
theorem dX10_count_63 : decode cX10_count 63 = .ok (.ireturn, 1) := by decide +kernel
theorem dX10_count_64 : decode cX10_count 64 = .ok (.aload_n 0, 1) := by decide +kernel
theorem dX10_count_65 : decode cX10_count 65 = .ok (.getfield 97, 3) := by decide +kernel
theorem dX10_count_68 : decode cX10_count 68 = .ok (.ireturn, 1) := by decide +kernel
theorem dX10_count_69 : decode cX10_count 69 = .ok (.aload_n 0, 1) := by decide +kernel
theorem dX10_count_70 : decode cX10_count 70 = .ok (.getfield 127, 3) := by decide +kernel
theorem dX10_count_73 : decode cX10_count 73 = .ok (.ireturn, 1) := by decide +kernel
theorem dX10_count_74 : decode cX10_count 74 = .ok (.aload_n 0, 1) := by decide +kernel
theorem dX10_count_75 : decode cX10_count 75 = .ok (.getfield 295, 3) := by decide +kernel
theorem dX10_count_78 : decode cX10_count 78 = .ok (.ireturn, 1) := by decide +kernel
theorem dX10_count_79 : decode cX10_count 79 = .ok (.bipush (-3), 2) := by decide +kernel
theorem dX10_count_81 : decode cX10_count 81 = .ok (.ireturn, 1) := by decide +kernel
theorem dJ13_bitCount_95d88_0 : decode cJ13_bitCount_95d88 0 = .ok (.lload_n 0, 1) := by decide +kernel
theorem dJ13_bitCount_95d88_1 : decode cJ13_bitCount_95d88 1 = .ok (.lload_n 0, 1) := by decide +kernel
theorem dJ13_bitCount_95d88_2 : decode cJ13_bitCount_95d88 2 = .ok (.iconst 1, 1) := by decide +kernel
theorem dJ13_bitCount_95d88_3 : decode cJ13_bitCount_95d88 3 = .ok (.lushr, 1) := by decide +kernel
theorem dJ13_bitCount_95d88_4 : decode cJ13_bitCount_95d88 4 = .ok (.ldc2_w 314, 3) := by decide +kernel
theorem dJ13_bitCount_95d88_7 : decode cJ13_bitCount_95d88 7 = .ok (.land, 1) := by decide +kernel
theorem dJ13_bitCount_95d88_8 : decode cJ13_bitCount_95d88 8 = .ok (.lsub, 1) := by decide +kernel
theorem dJ13_bitCount_95d88_9 : decode cJ13_bitCount_95d88 9 = .ok (.lstore_n 0, 1) := by decide +kernel
theorem dJ13_bitCount_95d88_10 : decode cJ13_bitCount_95d88 10 = .ok (.lload_n 0, 1) := by decide +kernel
theorem dJ13_bitCount_95d88_11 : decode cJ13_bitCount_95d88 11 = .ok (.ldc2_w 316, 3) := by decide +kernel
theorem dJ13_bitCount_95d88_14 : decode cJ13_bitCount_95d88 14 = .ok (.land, 1) := by decide +kernel
theorem dJ13_bitCount_95d88_15 : decode cJ13_bitCount_95d88 15 = .ok (.lload_n 0, 1) := by decide +kernel
theorem dJ13_bitCount_95d88_16 : decode cJ13_bitCount_95d88 16 = .ok (.iconst 2, 1) := by decide +kernel
theorem dJ13_bitCount_95d88_17 : decode cJ13_bitCount_95d88 17 = .ok (.lushr, 1) := by decide +kernel
theorem dJ13_bitCount_95d88_18 : decode cJ13_bitCount_95d88 18 = .ok (.ldc2_w 316, 3) := by decide +kernel
theorem dJ13_bitCount_95d88_21 : decode cJ13_bitCount_95d88 21 = .ok (.land, 1) := by decide +kernel
theorem dJ13_bitCount_95d88_22 : decode cJ13_bitCount_95d88 22 = .ok (.ladd, 1) := by decide +kernel
theorem dJ13_bitCount_95d88_23 : decode cJ13_bitCount_95d88 23 = .ok (.lstore_n 0, 1) := by decide +kernel
theorem dJ13_bitCount_95d88_24 : decode cJ13_bitCount_95d88 24 = .ok (.lload_n 0, 1) := by decide +kernel
theorem dJ13_bitCount_95d88_25 : decode cJ13_bitCount_95d88 25 = .ok (.lload_n 0, 1) := by decide +kernel
theorem dJ13_bitCount_95d88_26 : decode cJ13_bitCount_95d88 26 = .ok (.iconst 4, 1) := by decide +kernel
theorem dJ13_bitCount_95d88_27 : decode cJ13_bitCount_95d88 27 = .ok (.lushr, 1) := by decide +kernel
theorem dJ13_bitCount_95d88_28 : decode cJ13_bitCount_95d88 28 = .ok (.ladd, 1) := by decide +kernel
theorem dJ13_bitCount_95d88_29 : decode cJ13_bitCount_95d88 29 = .ok (.ldc2_w 318, 3) := by decide +kernel
theorem dJ13_bitCount_95d88_32 : decode cJ13_bitCount_95d88 32 = .ok (.land, 1) := by decide +kernel
theorem dJ13_bitCount_95d88_33 : decode cJ13_bitCount_95d88 33 = .ok (.lstore_n 0, 1) := by decide +kernel
theorem dJ13_bitCount_95d88_34 : decode cJ13_bitCount_95d88 34 = .ok (.lload_n 0, 1) := by decide +kernel
theorem dJ13_bitCount_95d88_35 : decode cJ13_bitCount_95d88 35 = .ok (.lload_n 0, 1) := by decide +kernel
theorem dJ13_bitCount_95d88_36 : decode cJ13_bitCount_95d88 36 = .ok (.bipush 8, 2) := by decide +kernel
theorem dJ13_bitCount_95d88_38 : decode cJ13_bitCount_95d88 38 = .ok (.lushr, 1) := by decide +kernel
theorem dJ13_bitCount_95d88_39 : decode cJ13_bitCount_95d88 39 = .ok (.ladd, 1) := by decide +kernel
theorem dJ13_bitCount_95d88_40 : decode cJ13_bitCount_95d88 40 = .ok (.lstore_n 0, 1) := by decide +kernel
theorem dJ13_bitCount_95d88_41 : decode cJ13_bitCount_95d88 41 = .ok (.lload_n 0, 1) := by decide +kernel
theorem dJ13_bitCount_95d88_42 : decode cJ13_bitCount_95d88 42 = .ok (.lload_n 0, 1) := by decide +kernel
theorem dJ13_bitCount_95d88_43 : decode cJ13_bitCount_95d88 43 = .ok (.bipush 16, 2) := by decide +kernel
theorem dJ13_bitCount_95d88_45 : decode cJ13_bitCount_95d88 45 = .ok (.lushr, 1) := by decide +kernel
theorem dJ13_bitCount_95d88_46 : decode cJ13_bitCount_95d88 46 = .ok (.ladd, 1) := by decide +kernel
theorem dJ13_bitCount_95d88_47 : decode cJ13_bitCount_95d88 47 = .ok (.lstore_n 0, 1) := by decide +kernel
theorem dJ13_bitCount_95d88_48 : decode cJ13_bitCount_95d88 48 = .ok (.lload_n 0, 1) := by decide +kernel
theorem dJ13_bitCount_95d88_49 : decode cJ13_bitCount_95d88 49 = .ok (.lload_n 0, 1) := by decide +kernel
theorem dJ13_bitCount_95d88_50 : decode cJ13_bitCount_95d88 50 = .ok (.bipush 32, 2) := by decide +kernel
theorem dJ13_bitCount_95d88_52 : decode cJ13_bitCount_95d88 52 = .ok (.lushr, 1) := by decide +kernel
theorem dJ13_bitCount_95d88_53 : decode cJ13_bitCount_95d88 53 = .ok (.ladd, 1) := by decide +kernel
theorem dJ13_bitCount_95d88_54 : decode cJ13_bitCount_95d88 54 = .ok (.lstore_n 0, 1) := by decide +kernel
theorem dJ13_bitCount_95d88_55 : decode cJ13_bitCount_95d88 55 = .ok (.lload_n 0, 1) := by decide +kernel
theorem dJ13_bitCount_95d88_56 : decode cJ13_bitCount_95d88 56 = .ok (.l2i, 1) := by decide +kernel
theorem dJ13_bitCount_95d88_57 : decode cJ13_bitCount_95d88 57 = .ok (.bipush 127, 2) := by decide +kernel
theorem dJ13_bitCount_95d88_59 : decode cJ13_bitCount_95d88 59 = .ok (.iand, 1) := by decide +kernel
theorem dJ13_bitCount_95d88_60 : decode cJ13_bitCount_95d88 60 = .ok (.ireturn, 1) := by decide +kernel
theorem dJ9_abs_0f7a4_0 : decode cJ9_abs_0f7a4 0 = .ok (.iload_n 0, 1) := by decide +kernel
theorem dJ9_abs_0f7a4_1 : decode cJ9_abs_0f7a4 1 = .ok (.ifCond .ge 8, 3) := by decide +kernel
theorem dJ9_abs_0f7a4_4 : decode cJ9_abs_0f7a4 4 = .ok (.iload_n 0, 1) := by decide +kernel
theorem dJ9_abs_0f7a4_5 : decode cJ9_abs_0f7a4 5 = .ok (.ineg, 1) := by decide +kernel
theorem dJ9_abs_0f7a4_6 : decode cJ9_abs_0f7a4 6 = .ok (.goto 4, 3) := by decide +kernel
theorem dJ9_abs_0f7a4_9 : decode cJ9_abs_0f7a4 9 = .ok (.iload_n 0, 1) := by decide +kernel
theorem dJ9_abs_0f7a4_10 : decode cJ9_abs_0f7a4 10 = .ok (.ireturn, 1) := by decide +kernel
theorem dJ9_min_7cf53_0 : decode cJ9_min_7cf53 0 = .ok (.iload_n 0, 1) := by decide +kernel
theorem dJ9_min_7cf53_1 : decode cJ9_min_7cf53 1 = .ok (.iload_n 1, 1) := by decide +kernel
theorem dJ9_min_7cf53_2 : decode cJ9_min_7cf53 2 = .ok (.if_icmp .gt 7, 3) := by decide +kernel
theorem dJ9_min_7cf53_5 : decode cJ9_min_7cf53 5 = .ok (.iload_n 0, 1) := by decide +kernel
theorem dJ9_min_7cf53_6 : decode cJ9_min_7cf53 6 = .ok (.goto 4, 3) := by decide +kernel
theorem dJ9_min_7cf53_9 : decode cJ9_min_7cf53 9 = .ok (.iload_n 1, 1) := by decide +kernel
theorem dJ9_min_7cf53_10 : decode cJ9_min_7cf53 10 = .ok (.ireturn, 1) := by decide +kernel
theorem dJ0_length_8abf5_0 : decode cJ0_length_8abf5 0 = .ok (.aload_n 0, 1) := by decide +kernel
theorem dJ0_length_8abf5_1 : decode cJ0_length_8abf5 1 = .ok (.getfield 9, 3) := by decide +kernel
theorem dJ0_length_8abf5_4 : decode cJ0_length_8abf5 4 = .ok (.arraylength, 1) := by decide +kernel
theorem dJ0_length_8abf5_5 : decode cJ0_length_8abf5 5 = .ok (.aload_n 0, 1) := by decide +kernel
theorem dJ0_length_8abf5_6 : decode cJ0_length_8abf5 6 = .ok (.invokevirtual 335, 3) := by decide +kernel
theorem dJ0_length_8abf5_9 : decode cJ0_length_8abf5 9 = .ok (.ishr, 1) := by decide +kernel
theorem dJ0_length_8abf5_10 : decode cJ0_length_8abf5 10 = .ok (.ireturn, 1) := by decide +kernel
theorem dJ0_charAt_5068e_0 : decode cJ0_charAt_5068e 0 = .ok (.aload_n 0, 1) := by decide +kernel
theorem dJ0_charAt_5068e_1 : decode cJ0_charAt_5068e 1 = .ok (.invokevirtual 492, 3) := by decide +kernel
theorem dJ0_charAt_5068e_4 : decode cJ0_charAt_5068e 4 = .ok (.ifCond .eq 12, 3) := by decide +kernel
theorem dJ0_charAt_5068e_7 : decode cJ0_charAt_5068e 7 = .ok (.aload_n 0, 1) := by decide +kernel
theorem dJ0_charAt_5068e_8 : decode cJ0_charAt_5068e 8 = .ok (.getfield 9, 3) := by decide +kernel
theorem dJ0_charAt_5068e_11 : decode cJ0_charAt_5068e 11 = .ok (.iload_n 1, 1) := by decide +kernel
theorem dJ0_charAt_5068e_12 : decode cJ0_charAt_5068e 12 = .ok (.invokestatic 495, 3) := by decide +kernel
theorem dJ0_charAt_5068e_15 : decode cJ0_charAt_5068e 15 = .ok (.ireturn, 1) := by decide +kernel
theorem dJ0_charAt_5068e_16 : decode cJ0_charAt_5068e 16 = .ok (.aload_n 0, 1) := by decide +kernel
theorem dJ0_charAt_5068e_17 : decode cJ0_charAt_5068e 17 = .ok (.getfield 9, 3) := by decide +kernel
theorem dJ0_charAt_5068e_20 : decode cJ0_charAt_5068e 20 = .ok (.iload_n 1, 1) := by decide +kernel
theorem dJ0_charAt_5068e_21 : decode cJ0_charAt_5068e 21 = .ok (.invokestatic 498, 3) := by decide +kernel
theorem dJ0_charAt_5068e_24 : decode cJ0_charAt_5068e 24 = .ok (.ireturn, 1) := by decide +kernel
theorem dJ0_coder_7d493_0 : decode cJ0_coder_7d493 0 = .ok (.getstatic 38, 3) := by decide +kernel
theorem dJ0_coder_7d493_3 : decode cJ0_coder_7d493 3 = .ok (.ifCond .eq 10, 3) := by decide +kernel
theorem dJ0_coder_7d493_6 : decode cJ0_coder_7d493 6 = .ok (.aload_n 0, 1) := by decide +kernel
theorem dJ0_coder_7d493_7 : decode cJ0_coder_7d493 7 = .ok (.getfield 15, 3) := by decide +kernel
theorem dJ0_coder_7d493_10 : decode cJ0_coder_7d493 10 = .ok (.goto 4, 3) := by decide +kernel
theorem dJ0_coder_7d493_13 : decode cJ0_coder_7d493 13 = .ok (.iconst 1, 1) := by decide +kernel
theorem dJ0_coder_7d493_14 : decode cJ0_coder_7d493 14 = .ok (.ireturn, 1) := by decide +kernel
theorem dJ0_isLatin1_aae02_0 : decode cJ0_isLatin1_aae02 0 = .ok (.getstatic 38, 3) := by decide +kernel
theorem dJ0_isLatin1_aae02_3 : decode cJ0_isLatin1_aae02 3 = .ok (.ifCond .eq 14, 3) := by decide +kernel
theorem dJ0_isLatin1_aae02_6 : decode cJ0_isLatin1_aae02 6 = .ok (.aload_n 0, 1) := by decide +kernel
theorem dJ0_isLatin1_aae02_7 : decode cJ0_isLatin1_aae02 7 = .ok (.getfield 15, 3) := by decide +kernel
theorem dJ0_isLatin1_aae02_10 : decode cJ0_isLatin1_aae02 10 = .ok (.ifCond .ne 7, 3) := by decide +kernel
theorem dJ0_isLatin1_aae02_13 : decode cJ0_isLatin1_aae02 13 = .ok (.iconst 1, 1) := by decide +kernel
theorem dJ0_isLatin1_aae02_14 : decode cJ0_isLatin1_aae02 14 = .ok (.goto 4, 3) := by decide +kernel
theorem dJ0_isLatin1_aae02_17 : decode cJ0_isLatin1_aae02 17 = .ok (.iconst 0, 1) := by decide +kernel
theorem dJ0_isLatin1_aae02_18 : decode cJ0_isLatin1_aae02 18 = .ok (.ireturn, 1) := by decide +kernel
theorem dJ0_checkIndex_df160_0 : decode cJ0_checkIndex_df160 0 = .ok (.iload_n 0, 1) := by decide +kernel
theorem dJ0_checkIndex_df160_1 : decode cJ0_checkIndex_df160 1 = .ok (.iload_n 1, 1) := by decide +kernel
theorem dJ0_checkIndex_df160_2 : decode cJ0_checkIndex_df160 2 = .ok (.getstatic 1053, 3) := by decide +kernel
theorem dJ0_checkIndex_df160_5 : decode cJ0_checkIndex_df160 5 = .ok (.invokestatic 1059, 3) := by decide +kernel
theorem dJ0_checkIndex_df160_8 : decode cJ0_checkIndex_df160 8 = .ok (.pop, 1) := by decide +kernel
theorem dJ0_checkIndex_df160_9 : decode cJ0_checkIndex_df160 9 = .ok (.return_, 1) := by decide +kernel
theorem dJ1_charAt_3b067_0 : decode cJ1_charAt_3b067 0 = .ok (.iload_n 1, 1) := by decide +kernel
theorem dJ1_charAt_3b067_1 : decode cJ1_charAt_3b067 1 = .ok (.aload_n 0, 1) := by decide +kernel
theorem dJ1_charAt_3b067_2 : decode cJ1_charAt_3b067 2 = .ok (.arraylength, 1) := by decide +kernel
theorem dJ1_charAt_3b067_3 : decode cJ1_charAt_3b067 3 = .ok (.invokestatic 9, 3) := by decide +kernel
theorem dJ1_charAt_3b067_6 : decode cJ1_charAt_3b067 6 = .ok (.aload_n 0, 1) := by decide +kernel
theorem dJ1_charAt_3b067_7 : decode cJ1_charAt_3b067 7 = .ok (.iload_n 1, 1) := by decide +kernel
theorem dJ1_charAt_3b067_8 : decode cJ1_charAt_3b067 8 = .ok (.baload, 1) := by decide +kernel
theorem dJ1_charAt_3b067_9 : decode cJ1_charAt_3b067 9 = .ok (.sipush 255, 3) := by decide +kernel
theorem dJ1_charAt_3b067_12 : decode cJ1_charAt_3b067 12 = .ok (.iand, 1) := by decide +kernel
theorem dJ1_charAt_3b067_13 : decode cJ1_charAt_3b067 13 = .ok (.i2c, 1) := by decide +kernel
theorem dJ1_charAt_3b067_14 : decode cJ1_charAt_3b067 14 = .ok (.ireturn, 1) := by decide +kernel
theorem dJ2_getChar_3b067_0 : decode cJ2_getChar_3b067 0 = .ok (.getstatic 44, 3) := by decide +kernel
theorem dJ2_getChar_3b067_3 : decode cJ2_getChar_3b067 3 = .ok (.ifCond .ne 25, 3) := by decide +kernel
theorem dJ2_getChar_3b067_6 : decode cJ2_getChar_3b067 6 = .ok (.iload_n 1, 1) := by decide +kernel
theorem dJ2_getChar_3b067_7 : decode cJ2_getChar_3b067 7 = .ok (.ifCond .lt 11, 3) := by decide +kernel
theorem dJ2_getChar_3b067_10 : decode cJ2_getChar_3b067 10 = .ok (.iload_n 1, 1) := by decide +kernel
theorem dJ2_getChar_3b067_11 : decode cJ2_getChar_3b067 11 = .ok (.aload_n 0, 1) := by decide +kernel
theorem dJ2_getChar_3b067_12 : decode cJ2_getChar_3b067 12 = .ok (.invokestatic 48, 3) := by decide +kernel
theorem dJ2_getChar_3b067_15 : decode cJ2_getChar_3b067 15 = .ok (.if_icmp .lt 13, 3) := by decide +kernel
theorem dJ2_getChar_3b067_18 : decode cJ2_getChar_3b067 18 = .ok (.new 52, 3) := by decide +kernel
theorem dJ2_getChar_3b067_21 : decode cJ2_getChar_3b067 21 = .ok (.dup, 1) := by decide +kernel
theorem dJ2_getChar_3b067_22 : decode cJ2_getChar_3b067 22 = .ok (.ldc 54, 2) := by decide +kernel
theorem dJ2_getChar_3b067_24 : decode cJ2_getChar_3b067 24 = .ok (.invokespecial 56, 3) := by decide +kernel
theorem dJ2_getChar_3b067_27 : decode cJ2_getChar_3b067 27 = .ok (.athrow, 1) := by decide +kernel
theorem dJ2_getChar_3b067_28 : decode cJ2_getChar_3b067 28 = .ok (.iload_n 1, 1) := by decide +kernel
theorem dJ2_getChar_3b067_29 : decode cJ2_getChar_3b067 29 = .ok (.iconst 1, 1) := by decide +kernel
theorem dJ2_getChar_3b067_30 : decode cJ2_getChar_3b067 30 = .ok (.ishl, 1) := by decide +kernel
theorem dJ2_getChar_3b067_31 : decode cJ2_getChar_3b067 31 = .ok (.istore_n 1, 1) := by decide +kernel
theorem dJ2_getChar_3b067_32 : decode cJ2_getChar_3b067 32 = .ok (.aload_n 0, 1) := by decide +kernel
theorem dJ2_getChar_3b067_33 : decode cJ2_getChar_3b067 33 = .ok (.iload_n 1, 1) := by decide +kernel
theorem dJ2_getChar_3b067_34 : decode cJ2_getChar_3b067 34 = .ok (.iinc 1 1, 3) := by decide +kernel
theorem dJ2_getChar_3b067_37 : decode cJ2_getChar_3b067 37 = .ok (.baload, 1) := by decide +kernel
theorem dJ2_getChar_3b067_38 : decode cJ2_getChar_3b067 38 = .ok (.sipush 255, 3) := by decide +kernel
theorem dJ2_getChar_3b067_41 : decode cJ2_getChar_3b067 41 = .ok (.iand, 1) := by decide +kernel
theorem dJ2_getChar_3b067_42 : decode cJ2_getChar_3b067 42 = .ok (.getstatic 59, 3) := by decide +kernel
theorem dJ2_getChar_3b067_45 : decode cJ2_getChar_3b067 45 = .ok (.ishl, 1) := by decide +kernel
theorem dJ2_getChar_3b067_46 : decode cJ2_getChar_3b067 46 = .ok (.aload_n 0, 1) := by decide +kernel
theorem dJ2_getChar_3b067_47 : decode cJ2_getChar_3b067 47 = .ok (.iload_n 1, 1) := by decide +kernel
theorem dJ2_getChar_3b067_48 : decode cJ2_getChar_3b067 48 = .ok (.baload, 1) := by decide +kernel
theorem dJ2_getChar_3b067_49 : decode cJ2_getChar_3b067 49 = .ok (.sipush 255, 3) := by decide +kernel
theorem dJ2_getChar_3b067_52 : decode cJ2_getChar_3b067 52 = .ok (.iand, 1) := by decide +kernel
theorem dJ2_getChar_3b067_53 : decode cJ2_getChar_3b067 53 = .ok (.getstatic 63, 3) := by decide +kernel
theorem dJ2_getChar_3b067_56 : decode cJ2_getChar_3b067 56 = .ok (.ishl, 1) := by decide +kernel
theorem dJ2_getChar_3b067_57 : decode cJ2_getChar_3b067 57 = .ok (.ior, 1) := by decide +kernel
theorem dJ2_getChar_3b067_58 : decode cJ2_getChar_3b067 58 = .ok (.i2c, 1) := by decide +kernel
theorem dJ2_getChar_3b067_59 : decode cJ2_getChar_3b067 59 = .ok (.ireturn, 1) := by decide +kernel
theorem dJ2_length_9d52b_0 : decode cJ2_length_9d52b 0 = .ok (.aload_n 0, 1) := by decide +kernel
theorem dJ2_length_9d52b_1 : decode cJ2_length_9d52b 1 = .ok (.arraylength, 1) := by decide +kernel
theorem dJ2_length_9d52b_2 : decode cJ2_length_9d52b 2 = .ok (.iconst 1, 1) := by decide +kernel
theorem dJ2_length_9d52b_3 : decode cJ2_length_9d52b 3 = .ok (.ishr, 1) := by decide +kernel
theorem dJ2_length_9d52b_4 : decode cJ2_length_9d52b 4 = .ok (.ireturn, 1) := by decide +kernel
theorem dJ2_charAt_3b067_0 : decode cJ2_charAt_3b067 0 = .ok (.iload_n 1, 1) := by decide +kernel
theorem dJ2_charAt_3b067_1 : decode cJ2_charAt_3b067 1 = .ok (.aload_n 0, 1) := by decide +kernel
theorem dJ2_charAt_3b067_2 : decode cJ2_charAt_3b067 2 = .ok (.invokestatic 67, 3) := by decide +kernel
theorem dJ2_charAt_3b067_5 : decode cJ2_charAt_3b067 5 = .ok (.aload_n 0, 1) := by decide +kernel
theorem dJ2_charAt_3b067_6 : decode cJ2_charAt_3b067 6 = .ok (.iload_n 1, 1) := by decide +kernel
theorem dJ2_charAt_3b067_7 : decode cJ2_charAt_3b067 7 = .ok (.invokestatic 71, 3) := by decide +kernel
theorem dJ2_charAt_3b067_10 : decode cJ2_charAt_3b067 10 = .ok (.ireturn, 1) := by decide +kernel
theorem dJ2_checkIndex_2214a_0 : decode cJ2_checkIndex_2214a 0 = .ok (.iload_n 0, 1) := by decide +kernel
theorem dJ2_checkIndex_2214a_1 : decode cJ2_checkIndex_2214a 1 = .ok (.aload_n 1, 1) := by decide +kernel
theorem dJ2_checkIndex_2214a_2 : decode cJ2_checkIndex_2214a 2 = .ok (.invokestatic 48, 3) := by decide +kernel
theorem dJ2_checkIndex_2214a_5 : decode cJ2_checkIndex_2214a 5 = .ok (.invokestatic 414, 3) := by decide +kernel
theorem dJ2_checkIndex_2214a_8 : decode cJ2_checkIndex_2214a 8 = .ok (.return_, 1) := by decide +kernel
theorem dJ3_checkIndex_8e157_0 : decode cJ3_checkIndex_8e157 0 = .ok (.iload_n 0, 1) := by decide +kernel
theorem dJ3_checkIndex_8e157_1 : decode cJ3_checkIndex_8e157 1 = .ok (.ifCond .lt 8, 3) := by decide +kernel
theorem dJ3_checkIndex_8e157_4 : decode cJ3_checkIndex_8e157 4 = .ok (.iload_n 0, 1) := by decide +kernel
theorem dJ3_checkIndex_8e157_5 : decode cJ3_checkIndex_8e157 5 = .ok (.iload_n 1, 1) := by decide +kernel
theorem dJ3_checkIndex_8e157_6 : decode cJ3_checkIndex_8e157 6 = .ok (.if_icmp .lt 10, 3) := by decide +kernel
theorem dJ3_checkIndex_8e157_9 : decode cJ3_checkIndex_8e157 9 = .ok (.aload_n 2, 1) := by decide +kernel
theorem dJ3_checkIndex_8e157_10 : decode cJ3_checkIndex_8e157 10 = .ok (.iload_n 0, 1) := by decide +kernel
theorem dJ3_checkIndex_8e157_11 : decode cJ3_checkIndex_8e157 11 = .ok (.iload_n 1, 1) := by decide +kernel
theorem dJ3_checkIndex_8e157_12 : decode cJ3_checkIndex_8e157 12 = .ok (.invokestatic 95, 3) := by decide +kernel
theorem dJ3_checkIndex_8e157_15 : decode cJ3_checkIndex_8e157 15 = .ok (.athrow, 1) := by decide +kernel
theorem dJ3_checkIndex_8e157_16 : decode cJ3_checkIndex_8e157 16 = .ok (.iload_n 0, 1) := by decide +kernel
theorem dJ3_checkIndex_8e157_17 : decode cJ3_checkIndex_8e157 17 = .ok (.ireturn, 1) := by decide +kernel
theorem dL_law_0 : decode cL_law 0 = .ok (.new 7, 3) := by decide +kernel
theorem dL_law_3 : decode cL_law 3 = .ok (.dup, 1) := by decide +kernel
theorem dL_law_4 : decode cL_law 4 = .ok (.invokespecial 9, 3) := by decide +kernel
theorem dL_law_7 : decode cL_law 7 = .ok (.astore_n 1, 1) := by decide +kernel
theorem dL_law_8 : decode cL_law 8 = .ok (.new 10, 3) := by decide +kernel
theorem dL_law_11 : decode cL_law 11 = .ok (.dup, 1) := by decide +kernel
theorem dL_law_12 : decode cL_law 12 = .ok (.invokespecial 12, 3) := by decide +kernel
theorem dL_law_15 : decode cL_law 15 = .ok (.astore_n 2, 1) := by decide +kernel
theorem dL_law_16 : decode cL_law 16 = .ok (.iconst 0, 1) := by decide +kernel
theorem dL_law_17 : decode cL_law 17 = .ok (.istore_n 3, 1) := by decide +kernel
theorem dL_law_18 : decode cL_law 18 = .ok (.iload_n 3, 1) := by decide +kernel
theorem dL_law_19 : decode cL_law 19 = .ok (.aload_n 0, 1) := by decide +kernel
theorem dL_law_20 : decode cL_law 20 = .ok (.arraylength, 1) := by decide +kernel
theorem dL_law_21 : decode cL_law 21 = .ok (.bipush 7, 2) := by decide +kernel
theorem dL_law_23 : decode cL_law 23 = .ok (.isub, 1) := by decide +kernel
theorem dL_law_24 : decode cL_law 24 = .ok (.if_icmp .gt 1177, 3) := by decide +kernel
theorem dL_law_27 : decode cL_law 27 = .ok (.aload_n 0, 1) := by decide +kernel
theorem dL_law_28 : decode cL_law 28 = .ok (.iload_n 3, 1) := by decide +kernel
theorem dL_law_29 : decode cL_law 29 = .ok (.iaload, 1) := by decide +kernel
theorem dL_law_30 : decode cL_law 30 = .ok (.bipush 63, 2) := by decide +kernel
theorem dL_law_32 : decode cL_law 32 = .ok (.iand, 1) := by decide +kernel
theorem dL_law_33 : decode cL_law 33 = .ok (.tableswitch 1162 0 34 #[155, 178, 221, 254, 297, 340, 363, 376, 439, 452, 465, 478, 491, 514, 547, 580, 603, 636, 659, 682, 705, 728, 751, 784, 827, 880, 913, 936, 949, 1024, 1057, 1080, 1103, 1126, 1139], 155) := by decide +kernel
theorem dL_law_188 : decode cL_law 188 = .ok (.aload_n 1, 1) := by decide +kernel
theorem dL_law_189 : decode cL_law 189 = .ok (.aload_n 0, 1) := by decide +kernel
theorem dL_law_190 : decode cL_law 190 = .ok (.iload_n 3, 1) := by decide +kernel
theorem dL_law_191 : decode cL_law 191 = .ok (.iconst 1, 1) := by decide +kernel
theorem dL_law_192 : decode cL_law 192 = .ok (.iadd, 1) := by decide +kernel
theorem dL_law_193 : decode cL_law 193 = .ok (.iaload, 1) := by decide +kernel
theorem dL_law_194 : decode cL_law 194 = .ok (.invokevirtual 13, 3) := by decide +kernel
theorem dL_law_197 : decode cL_law 197 = .ok (.aload_n 2, 1) := by decide +kernel
theorem dL_law_198 : decode cL_law 198 = .ok (.aload_n 0, 1) := by decide +kernel
theorem dL_law_199 : decode cL_law 199 = .ok (.iload_n 3, 1) := by decide +kernel
theorem dL_law_200 : decode cL_law 200 = .ok (.iconst 1, 1) := by decide +kernel
theorem dL_law_201 : decode cL_law 201 = .ok (.iadd, 1) := by decide +kernel
theorem dL_law_202 : decode cL_law 202 = .ok (.iaload, 1) := by decide +kernel
theorem dL_law_203 : decode cL_law 203 = .ok (.invokevirtual 17, 3) := by decide +kernel
theorem dL_law_206 : decode cL_law 206 = .ok (.if_icmp .eq 989, 3) := by decide +kernel
theorem dL_law_209 : decode cL_law 209 = .ok (.iconst 0, 1) := by decide +kernel
theorem dL_law_210 : decode cL_law 210 = .ok (.ireturn, 1) := by decide +kernel
theorem dL_law_211 : decode cL_law 211 = .ok (.aload_n 1, 1) := by decide +kernel
theorem dL_law_212 : decode cL_law 212 = .ok (.aload_n 0, 1) := by decide +kernel
theorem dL_law_213 : decode cL_law 213 = .ok (.iload_n 3, 1) := by decide +kernel
theorem dL_law_214 : decode cL_law 214 = .ok (.iconst 1, 1) := by decide +kernel
theorem dL_law_215 : decode cL_law 215 = .ok (.iadd, 1) := by decide +kernel
theorem dL_law_216 : decode cL_law 216 = .ok (.iaload, 1) := by decide +kernel
theorem dL_law_217 : decode cL_law 217 = .ok (.aload_n 0, 1) := by decide +kernel
theorem dL_law_218 : decode cL_law 218 = .ok (.iload_n 3, 1) := by decide +kernel
theorem dL_law_219 : decode cL_law 219 = .ok (.iconst 2, 1) := by decide +kernel
