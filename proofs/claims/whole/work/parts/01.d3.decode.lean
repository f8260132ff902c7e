theorem dX8_block_204 : decode cX8_block 204 = .ok (.istore 6, 2) := by decide +kernel
theorem dX8_block_206 : decode cX8_block 206 = .ok (.aload_n 0, 1) := by decide +kernel
theorem dX8_block_207 : decode cX8_block 207 = .ok (.getfield 32, 3) := by decide +kernel
theorem dX8_block_210 : decode cX8_block 210 = .ok (.iconst 5, 1) := by decide +kernel
theorem dX8_block_211 : decode cX8_block 211 = .ok (.iaload, 1) := by decide +kernel
theorem dX8_block_212 : decode cX8_block 212 = .ok (.istore 7, 2) := by decide +kernel
theorem dX8_block_214 : decode cX8_block 214 = .ok (.aload_n 0, 1) := by decide +kernel
theorem dX8_block_215 : decode cX8_block 215 = .ok (.getfield 32, 3) := by decide +kernel
theorem dX8_block_218 : decode cX8_block 218 = .ok (.bipush 6, 2) := by decide +kernel
theorem dX8_block_220 : decode cX8_block 220 = .ok (.iaload, 1) := by decide +kernel
theorem dX8_block_221 : decode cX8_block 221 = .ok (.istore 8, 2) := by decide +kernel
theorem dX8_block_223 : decode cX8_block 223 = .ok (.aload_n 0, 1) := by decide +kernel
theorem dX8_block_224 : decode cX8_block 224 = .ok (.getfield 32, 3) := by decide +kernel
theorem dX8_block_227 : decode cX8_block 227 = .ok (.bipush 7, 2) := by decide +kernel
theorem dX8_block_229 : decode cX8_block 229 = .ok (.iaload, 1) := by decide +kernel
theorem dX8_block_230 : decode cX8_block 230 = .ok (.istore 9, 2) := by decide +kernel
theorem dX8_block_232 : decode cX8_block 232 = .ok (.iconst 0, 1) := by decide +kernel
theorem dX8_block_233 : decode cX8_block 233 = .ok (.istore 10, 2) := by decide +kernel
theorem dX8_block_235 : decode cX8_block 235 = .ok (.iload 10, 2) := by decide +kernel
theorem dX8_block_237 : decode cX8_block 237 = .ok (.bipush 64, 2) := by decide +kernel
theorem dX8_block_239 : decode cX8_block 239 = .ok (.if_icmp .ge 136, 3) := by decide +kernel
theorem dX8_block_242 : decode cX8_block 242 = .ok (.iload 9, 2) := by decide +kernel
theorem dX8_block_244 : decode cX8_block 244 = .ok (.iload 6, 2) := by decide +kernel
theorem dX8_block_246 : decode cX8_block 246 = .ok (.bipush 6, 2) := by decide +kernel
theorem dX8_block_248 : decode cX8_block 248 = .ok (.invokestatic 140, 3) := by decide +kernel
theorem dX8_block_251 : decode cX8_block 251 = .ok (.iload 6, 2) := by decide +kernel
theorem dX8_block_253 : decode cX8_block 253 = .ok (.bipush 11, 2) := by decide +kernel
theorem dX8_block_255 : decode cX8_block 255 = .ok (.invokestatic 140, 3) := by decide +kernel
theorem dX8_block_258 : decode cX8_block 258 = .ok (.ixor, 1) := by decide +kernel
theorem dX8_block_259 : decode cX8_block 259 = .ok (.iload 6, 2) := by decide +kernel
theorem dX8_block_261 : decode cX8_block 261 = .ok (.bipush 25, 2) := by decide +kernel
theorem dX8_block_263 : decode cX8_block 263 = .ok (.invokestatic 140, 3) := by decide +kernel
theorem dX8_block_266 : decode cX8_block 266 = .ok (.ixor, 1) := by decide +kernel
theorem dX8_block_267 : decode cX8_block 267 = .ok (.iadd, 1) := by decide +kernel
theorem dX8_block_268 : decode cX8_block 268 = .ok (.iload 6, 2) := by decide +kernel
theorem dX8_block_270 : decode cX8_block 270 = .ok (.iload 7, 2) := by decide +kernel
theorem dX8_block_272 : decode cX8_block 272 = .ok (.iand, 1) := by decide +kernel
theorem dX8_block_273 : decode cX8_block 273 = .ok (.iload 6, 2) := by decide +kernel
theorem dX8_block_275 : decode cX8_block 275 = .ok (.iconst (-1), 1) := by decide +kernel
theorem dX8_block_276 : decode cX8_block 276 = .ok (.ixor, 1) := by decide +kernel
theorem dX8_block_277 : decode cX8_block 277 = .ok (.iload 8, 2) := by decide +kernel
theorem dX8_block_279 : decode cX8_block 279 = .ok (.iand, 1) := by decide +kernel
theorem dX8_block_280 : decode cX8_block 280 = .ok (.ixor, 1) := by decide +kernel
theorem dX8_block_281 : decode cX8_block 281 = .ok (.iadd, 1) := by decide +kernel
theorem dX8_block_282 : decode cX8_block 282 = .ok (.aload_n 0, 1) := by decide +kernel
theorem dX8_block_283 : decode cX8_block 283 = .ok (.getfield 7, 3) := by decide +kernel
theorem dX8_block_286 : decode cX8_block 286 = .ok (.iload 10, 2) := by decide +kernel
theorem dX8_block_288 : decode cX8_block 288 = .ok (.iaload, 1) := by decide +kernel
theorem dX8_block_289 : decode cX8_block 289 = .ok (.iadd, 1) := by decide +kernel
theorem dX8_block_290 : decode cX8_block 290 = .ok (.aload_n 0, 1) := by decide +kernel
theorem dX8_block_291 : decode cX8_block 291 = .ok (.getfield 35, 3) := by decide +kernel
theorem dX8_block_294 : decode cX8_block 294 = .ok (.iload 10, 2) := by decide +kernel
theorem dX8_block_296 : decode cX8_block 296 = .ok (.iaload, 1) := by decide +kernel
theorem dX8_block_297 : decode cX8_block 297 = .ok (.iadd, 1) := by decide +kernel
theorem dX8_block_298 : decode cX8_block 298 = .ok (.istore 11, 2) := by decide +kernel
theorem dX8_block_300 : decode cX8_block 300 = .ok (.iload_n 2, 1) := by decide +kernel
theorem dX8_block_301 : decode cX8_block 301 = .ok (.iconst 2, 1) := by decide +kernel
theorem dX8_block_302 : decode cX8_block 302 = .ok (.invokestatic 140, 3) := by decide +kernel
theorem dX8_block_305 : decode cX8_block 305 = .ok (.iload_n 2, 1) := by decide +kernel
theorem dX8_block_306 : decode cX8_block 306 = .ok (.bipush 13, 2) := by decide +kernel
theorem dX8_block_308 : decode cX8_block 308 = .ok (.invokestatic 140, 3) := by decide +kernel
theorem dX8_block_311 : decode cX8_block 311 = .ok (.ixor, 1) := by decide +kernel
theorem dX8_block_312 : decode cX8_block 312 = .ok (.iload_n 2, 1) := by decide +kernel
theorem dX8_block_313 : decode cX8_block 313 = .ok (.bipush 22, 2) := by decide +kernel
theorem dX8_block_315 : decode cX8_block 315 = .ok (.invokestatic 140, 3) := by decide +kernel
theorem dX8_block_318 : decode cX8_block 318 = .ok (.ixor, 1) := by decide +kernel
theorem dX8_block_319 : decode cX8_block 319 = .ok (.iload_n 2, 1) := by decide +kernel
theorem dX8_block_320 : decode cX8_block 320 = .ok (.iload_n 3, 1) := by decide +kernel
theorem dX8_block_321 : decode cX8_block 321 = .ok (.iand, 1) := by decide +kernel
theorem dX8_block_322 : decode cX8_block 322 = .ok (.iload_n 2, 1) := by decide +kernel
theorem dX8_block_323 : decode cX8_block 323 = .ok (.iload 4, 2) := by decide +kernel
theorem dX8_block_325 : decode cX8_block 325 = .ok (.iand, 1) := by decide +kernel
theorem dX8_block_326 : decode cX8_block 326 = .ok (.ixor, 1) := by decide +kernel
theorem dX8_block_327 : decode cX8_block 327 = .ok (.iload_n 3, 1) := by decide +kernel
theorem dX8_block_328 : decode cX8_block 328 = .ok (.iload 4, 2) := by decide +kernel
theorem dX8_block_330 : decode cX8_block 330 = .ok (.iand, 1) := by decide +kernel
theorem dX8_block_331 : decode cX8_block 331 = .ok (.ixor, 1) := by decide +kernel
theorem dX8_block_332 : decode cX8_block 332 = .ok (.iadd, 1) := by decide +kernel
theorem dX8_block_333 : decode cX8_block 333 = .ok (.istore 12, 2) := by decide +kernel
theorem dX8_block_335 : decode cX8_block 335 = .ok (.iload 8, 2) := by decide +kernel
theorem dX8_block_337 : decode cX8_block 337 = .ok (.istore 9, 2) := by decide +kernel
theorem dX8_block_339 : decode cX8_block 339 = .ok (.iload 7, 2) := by decide +kernel
theorem dX8_block_341 : decode cX8_block 341 = .ok (.istore 8, 2) := by decide +kernel
theorem dX8_block_343 : decode cX8_block 343 = .ok (.iload 6, 2) := by decide +kernel
theorem dX8_block_345 : decode cX8_block 345 = .ok (.istore 7, 2) := by decide +kernel
theorem dX8_block_347 : decode cX8_block 347 = .ok (.iload 5, 2) := by decide +kernel
theorem dX8_block_349 : decode cX8_block 349 = .ok (.iload 11, 2) := by decide +kernel
theorem dX8_block_351 : decode cX8_block 351 = .ok (.iadd, 1) := by decide +kernel
theorem dX8_block_352 : decode cX8_block 352 = .ok (.istore 6, 2) := by decide +kernel
theorem dX8_block_354 : decode cX8_block 354 = .ok (.iload 4, 2) := by decide +kernel
theorem dX8_block_356 : decode cX8_block 356 = .ok (.istore 5, 2) := by decide +kernel
theorem dX8_block_358 : decode cX8_block 358 = .ok (.iload_n 3, 1) := by decide +kernel
theorem dX8_block_359 : decode cX8_block 359 = .ok (.istore 4, 2) := by decide +kernel
theorem dX8_block_361 : decode cX8_block 361 = .ok (.iload_n 2, 1) := by decide +kernel
theorem dX8_block_362 : decode cX8_block 362 = .ok (.istore_n 3, 1) := by decide +kernel
theorem dX8_block_363 : decode cX8_block 363 = .ok (.iload 11, 2) := by decide +kernel
theorem dX8_block_365 : decode cX8_block 365 = .ok (.iload 12, 2) := by decide +kernel
theorem dX8_block_367 : decode cX8_block 367 = .ok (.iadd, 1) := by decide +kernel
theorem dX8_block_368 : decode cX8_block 368 = .ok (.istore_n 2, 1) := by decide +kernel
theorem dX8_block_369 : decode cX8_block 369 = .ok (.iinc 10 1, 3) := by decide +kernel
theorem dX8_block_372 : decode cX8_block 372 = .ok (.goto (-137), 3) := by decide +kernel
theorem dX8_block_375 : decode cX8_block 375 = .ok (.aload_n 0, 1) := by decide +kernel
theorem dX8_block_376 : decode cX8_block 376 = .ok (.getfield 32, 3) := by decide +kernel
theorem dX8_block_379 : decode cX8_block 379 = .ok (.iconst 0, 1) := by decide +kernel
theorem dX8_block_380 : decode cX8_block 380 = .ok (.dup2, 1) := by decide +kernel
theorem dX8_block_381 : decode cX8_block 381 = .ok (.iaload, 1) := by decide +kernel
theorem dX8_block_382 : decode cX8_block 382 = .ok (.iload_n 2, 1) := by decide +kernel
theorem dX8_block_383 : decode cX8_block 383 = .ok (.iadd, 1) := by decide +kernel
theorem dX8_block_384 : decode cX8_block 384 = .ok (.iastore, 1) := by decide +kernel
theorem dX8_block_385 : decode cX8_block 385 = .ok (.aload_n 0, 1) := by decide +kernel
theorem dX8_block_386 : decode cX8_block 386 = .ok (.getfield 32, 3) := by decide +kernel
theorem dX8_block_389 : decode cX8_block 389 = .ok (.iconst 1, 1) := by decide +kernel
theorem dX8_block_390 : decode cX8_block 390 = .ok (.dup2, 1) := by decide +kernel
theorem dX8_block_391 : decode cX8_block 391 = .ok (.iaload, 1) := by decide +kernel
theorem dX8_block_392 : decode cX8_block 392 = .ok (.iload_n 3, 1) := by decide +kernel
theorem dX8_block_393 : decode cX8_block 393 = .ok (.iadd, 1) := by decide +kernel
theorem dX8_block_394 : decode cX8_block 394 = .ok (.iastore, 1) := by decide +kernel
theorem dX8_block_395 : decode cX8_block 395 = .ok (.aload_n 0, 1) := by decide +kernel
theorem dX8_block_396 : decode cX8_block 396 = .ok (.getfield 32, 3) := by decide +kernel
theorem dX8_block_399 : decode cX8_block 399 = .ok (.iconst 2, 1) := by decide +kernel
theorem dX8_block_400 : decode cX8_block 400 = .ok (.dup2, 1) := by decide +kernel
theorem dX8_block_401 : decode cX8_block 401 = .ok (.iaload, 1) := by decide +kernel
theorem dX8_block_402 : decode cX8_block 402 = .ok (.iload 4, 2) := by decide +kernel
theorem dX8_block_404 : decode cX8_block 404 = .ok (.iadd, 1) := by decide +kernel
theorem dX8_block_405 : decode cX8_block 405 = .ok (.iastore, 1) := by decide +kernel
theorem dX8_block_406 : decode cX8_block 406 = .ok (.aload_n 0, 1) := by decide +kernel
theorem dX8_block_407 : decode cX8_block 407 = .ok (.getfield 32, 3) := by decide +kernel
theorem dX8_block_410 : decode cX8_block 410 = .ok (.iconst 3, 1) := by decide +kernel
theorem dX8_block_411 : decode cX8_block 411 = .ok (.dup2, 1) := by decide +kernel
theorem dX8_block_412 : decode cX8_block 412 = .ok (.iaload, 1) := by decide +kernel
theorem dX8_block_413 : decode cX8_block 413 = .ok (.iload 5, 2) := by decide +kernel
theorem dX8_block_415 : decode cX8_block 415 = .ok (.iadd, 1) := by decide +kernel
theorem dX8_block_416 : decode cX8_block 416 = .ok (.iastore, 1) := by decide +kernel
theorem dX8_block_417 : decode cX8_block 417 = .ok (.aload_n 0, 1) := by decide +kernel
theorem dX8_block_418 : decode cX8_block 418 = .ok (.getfield 32, 3) := by decide +kernel
theorem dX8_block_421 : decode cX8_block 421 = .ok (.iconst 4, 1) := by decide +kernel
theorem dX8_block_422 : decode cX8_block 422 = .ok (.dup2, 1) := by decide +kernel
theorem dX8_block_423 : decode cX8_block 423 = .ok (.iaload, 1) := by decide +kernel
theorem dX8_block_424 : decode cX8_block 424 = .ok (.iload 6, 2) := by decide +kernel
theorem dX8_block_426 : decode cX8_block 426 = .ok (.iadd, 1) := by decide +kernel
theorem dX8_block_427 : decode cX8_block 427 = .ok (.iastore, 1) := by decide +kernel
theorem dX8_block_428 : decode cX8_block 428 = .ok (.aload_n 0, 1) := by decide +kernel
theorem dX8_block_429 : decode cX8_block 429 = .ok (.getfield 32, 3) := by decide +kernel
theorem dX8_block_432 : decode cX8_block 432 = .ok (.iconst 5, 1) := by decide +kernel
theorem dX8_block_433 : decode cX8_block 433 = .ok (.dup2, 1) := by decide +kernel
theorem dX8_block_434 : decode cX8_block 434 = .ok (.iaload, 1) := by decide +kernel
theorem dX8_block_435 : decode cX8_block 435 = .ok (.iload 7, 2) := by decide +kernel
theorem dX8_block_437 : decode cX8_block 437 = .ok (.iadd, 1) := by decide +kernel
theorem dX8_block_438 : decode cX8_block 438 = .ok (.iastore, 1) := by decide +kernel
theorem dX8_block_439 : decode cX8_block 439 = .ok (.aload_n 0, 1) := by decide +kernel
theorem dX8_block_440 : decode cX8_block 440 = .ok (.getfield 32, 3) := by decide +kernel
theorem dX8_block_443 : decode cX8_block 443 = .ok (.bipush 6, 2) := by decide +kernel
theorem dX8_block_445 : decode cX8_block 445 = .ok (.dup2, 1) := by decide +kernel
theorem dX8_block_446 : decode cX8_block 446 = .ok (.iaload, 1) := by decide +kernel
theorem dX8_block_447 : decode cX8_block 447 = .ok (.iload 8, 2) := by decide +kernel
theorem dX8_block_449 : decode cX8_block 449 = .ok (.iadd, 1) := by decide +kernel
theorem dX8_block_450 : decode cX8_block 450 = .ok (.iastore, 1) := by decide +kernel
theorem dX8_block_451 : decode cX8_block 451 = .ok (.aload_n 0, 1) := by decide +kernel
theorem dX8_block_452 : decode cX8_block 452 = .ok (.getfield 32, 3) := by decide +kernel
theorem dX8_block_455 : decode cX8_block 455 = .ok (.bipush 7, 2) := by decide +kernel
theorem dX8_block_457 : decode cX8_block 457 = .ok (.dup2, 1) := by decide +kernel
theorem dX8_block_458 : decode cX8_block 458 = .ok (.iaload, 1) := by decide +kernel
theorem dX8_block_459 : decode cX8_block 459 = .ok (.iload 9, 2) := by decide +kernel
theorem dX8_block_461 : decode cX8_block 461 = .ok (.iadd, 1) := by decide +kernel
theorem dX8_block_462 : decode cX8_block 462 = .ok (.iastore, 1) := by decide +kernel
theorem dX8_block_463 : decode cX8_block 463 = .ok (.return_, 1) := by decide +kernel
theorem dX8_byteOfH_0 : decode cX8_byteOfH 0 = .ok (.aload_n 0, 1) := by decide +kernel
theorem dX8_byteOfH_1 : decode cX8_byteOfH 1 = .ok (.getfield 32, 3) := by decide +kernel
theorem dX8_byteOfH_4 : decode cX8_byteOfH 4 = .ok (.iload_n 1, 1) := by decide +kernel
theorem dX8_byteOfH_5 : decode cX8_byteOfH 5 = .ok (.iconst 4, 1) := by decide +kernel
theorem dX8_byteOfH_6 : decode cX8_byteOfH 6 = .ok (.idiv, 1) := by decide +kernel
theorem dX8_byteOfH_7 : decode cX8_byteOfH 7 = .ok (.iaload, 1) := by decide +kernel
theorem dX8_byteOfH_8 : decode cX8_byteOfH 8 = .ok (.bipush 24, 2) := by decide +kernel
theorem dX8_byteOfH_10 : decode cX8_byteOfH 10 = .ok (.bipush 8, 2) := by decide +kernel
theorem dX8_byteOfH_12 : decode cX8_byteOfH 12 = .ok (.iload_n 1, 1) := by decide +kernel
theorem dX8_byteOfH_13 : decode cX8_byteOfH 13 = .ok (.iconst 4, 1) := by decide +kernel
theorem dX8_byteOfH_14 : decode cX8_byteOfH 14 = .ok (.irem, 1) := by decide +kernel
theorem dX8_byteOfH_15 : decode cX8_byteOfH 15 = .ok (.imul, 1) := by decide +kernel
theorem dX8_byteOfH_16 : decode cX8_byteOfH 16 = .ok (.isub, 1) := by decide +kernel
theorem dX8_byteOfH_17 : decode cX8_byteOfH 17 = .ok (.iushr, 1) := by decide +kernel
theorem dX8_byteOfH_18 : decode cX8_byteOfH 18 = .ok (.sipush 255, 3) := by decide +kernel
theorem dX8_byteOfH_21 : decode cX8_byteOfH 21 = .ok (.iand, 1) := by decide +kernel
theorem dX8_byteOfH_22 : decode cX8_byteOfH 22 = .ok (.ireturn, 1) := by decide +kernel
theorem dX8_thrown_0 : decode cX8_thrown 0 = .ok (.aload_n 0, 1) := by decide +kernel
theorem dX8_thrown_1 : decode cX8_thrown 1 = .ok (.getfield 143, 3) := by decide +kernel
theorem dX8_thrown_4 : decode cX8_thrown 4 = .ok (.ireturn, 1) := by decide +kernel
theorem dX8_in_0 : decode cX8_in 0 = .ok (.iload_n 0, 1) := by decide +kernel
theorem dX8_in_1 : decode cX8_in 1 = .ok (.iload_n 1, 1) := by decide +kernel
theorem dX8_in_2 : decode cX8_in 2 = .ok (.if_icmp .lt 12, 3) := by decide +kernel
theorem dX8_in_5 : decode cX8_in 5 = .ok (.iload_n 0, 1) := by decide +kernel
theorem dX8_in_6 : decode cX8_in 6 = .ok (.iload_n 2, 1) := by decide +kernel
theorem dX8_in_7 : decode cX8_in 7 = .ok (.if_icmp .gt 7, 3) := by decide +kernel
theorem dX8_in_10 : decode cX8_in 10 = .ok (.iconst 1, 1) := by decide +kernel
theorem dX8_in_11 : decode cX8_in 11 = .ok (.goto 4, 3) := by decide +kernel
theorem dX8_in_14 : decode cX8_in 14 = .ok (.iconst 0, 1) := by decide +kernel
theorem dX8_in_15 : decode cX8_in 15 = .ok (.ireturn, 1) := by decide +kernel
theorem dX8_feed_0 : decode cX8_feed 0 = .ok (.aload_n 0, 1) := by decide +kernel
theorem dX8_feed_1 : decode cX8_feed 1 = .ok (.iconst 0, 1) := by decide +kernel
theorem dX8_feed_2 : decode cX8_feed 2 = .ok (.putfield 143, 3) := by decide +kernel
theorem dX8_feed_5 : decode cX8_feed 5 = .ok (.iload_n 1, 1) := by decide +kernel
theorem dX8_feed_6 : decode cX8_feed 6 = .ok (.iconst 1, 1) := by decide +kernel
theorem dX8_feed_7 : decode cX8_feed 7 = .ok (.bipush 8, 2) := by decide +kernel
theorem dX8_feed_9 : decode cX8_feed 9 = .ok (.invokestatic 146, 3) := by decide +kernel
theorem dX8_feed_12 : decode cX8_feed 12 = .ok (.ifCond .ne 6, 3) := by decide +kernel
theorem dX8_feed_15 : decode cX8_feed 15 = .ok (.bipush (-102), 2) := by decide +kernel
theorem dX8_feed_17 : decode cX8_feed 17 = .ok (.ireturn, 1) := by decide +kernel
theorem dX8_feed_18 : decode cX8_feed 18 = .ok (.aload_n 0, 1) := by decide +kernel
theorem dX8_feed_19 : decode cX8_feed 19 = .ok (.getfield 150, 3) := by decide +kernel
theorem dX8_feed_22 : decode cX8_feed 22 = .ok (.iload_n 1, 1) := by decide +kernel
theorem dX8_feed_23 : decode cX8_feed 23 = .ok (.iadd, 1) := by decide +kernel
theorem dX8_feed_24 : decode cX8_feed 24 = .ok (.sipush 200, 3) := by decide +kernel
theorem dX8_feed_27 : decode cX8_feed 27 = .ok (.if_icmp .le 6, 3) := by decide +kernel
theorem dX8_feed_30 : decode cX8_feed 30 = .ok (.bipush (-103), 2) := by decide +kernel
theorem dX8_feed_32 : decode cX8_feed 32 = .ok (.ireturn, 1) := by decide +kernel
theorem dX8_feed_33 : decode cX8_feed 33 = .ok (.iload_n 1, 1) := by decide +kernel
theorem dX8_feed_34 : decode cX8_feed 34 = .ok (.iconst 1, 1) := by decide +kernel
theorem dX8_feed_35 : decode cX8_feed 35 = .ok (.isub, 1) := by decide +kernel
theorem dX8_feed_36 : decode cX8_feed 36 = .ok (.istore 4, 2) := by decide +kernel
theorem dX8_feed_38 : decode cX8_feed 38 = .ok (.iload 4, 2) := by decide +kernel
theorem dX8_feed_40 : decode cX8_feed 40 = .ok (.ifCond .lt 40, 3) := by decide +kernel
theorem dX8_feed_43 : decode cX8_feed 43 = .ok (.aload_n 0, 1) := by decide +kernel
theorem dX8_feed_44 : decode cX8_feed 44 = .ok (.getfield 38, 3) := by decide +kernel
theorem dX8_feed_47 : decode cX8_feed 47 = .ok (.aload_n 0, 1) := by decide +kernel
theorem dX8_feed_48 : decode cX8_feed 48 = .ok (.getfield 150, 3) := by decide +kernel
theorem dX8_feed_51 : decode cX8_feed 51 = .ok (.lload_n 2, 1) := by decide +kernel
theorem dX8_feed_52 : decode cX8_feed 52 = .ok (.bipush 8, 2) := by decide +kernel
theorem dX8_feed_54 : decode cX8_feed 54 = .ok (.iload 4, 2) := by decide +kernel
theorem dX8_feed_56 : decode cX8_feed 56 = .ok (.imul, 1) := by decide +kernel
theorem dX8_feed_57 : decode cX8_feed 57 = .ok (.lushr, 1) := by decide +kernel
theorem dX8_feed_58 : decode cX8_feed 58 = .ok (.ldc2_w 132, 3) := by decide +kernel
theorem dX8_feed_61 : decode cX8_feed 61 = .ok (.land, 1) := by decide +kernel
theorem dX8_feed_62 : decode cX8_feed 62 = .ok (.l2i, 1) := by decide +kernel
theorem dX8_feed_63 : decode cX8_feed 63 = .ok (.iastore, 1) := by decide +kernel
theorem dX8_feed_64 : decode cX8_feed 64 = .ok (.aload_n 0, 1) := by decide +kernel
theorem dX8_feed_65 : decode cX8_feed 65 = .ok (.dup, 1) := by decide +kernel
theorem dX8_feed_66 : decode cX8_feed 66 = .ok (.getfield 150, 3) := by decide +kernel
theorem dX8_feed_69 : decode cX8_feed 69 = .ok (.iconst 1, 1) := by decide +kernel
theorem dX8_feed_70 : decode cX8_feed 70 = .ok (.iadd, 1) := by decide +kernel
theorem dX8_feed_71 : decode cX8_feed 71 = .ok (.putfield 150, 3) := by decide +kernel
theorem dX8_feed_74 : decode cX8_feed 74 = .ok (.iinc 4 (-1), 3) := by decide +kernel
theorem dX8_feed_77 : decode cX8_feed 77 = .ok (.goto (-39), 3) := by decide +kernel
theorem dX8_feed_80 : decode cX8_feed 80 = .ok (.aload_n 0, 1) := by decide +kernel
theorem dX8_feed_81 : decode cX8_feed 81 = .ok (.getfield 150, 3) := by decide +kernel
theorem dX8_feed_84 : decode cX8_feed 84 = .ok (.ireturn, 1) := by decide +kernel
theorem dX8_key_0 : decode cX8_key 0 = .ok (.aload_n 0, 1) := by decide +kernel
theorem dX8_key_1 : decode cX8_key 1 = .ok (.iconst 0, 1) := by decide +kernel
theorem dX8_key_2 : decode cX8_key 2 = .ok (.putfield 143, 3) := by decide +kernel
theorem dX8_key_5 : decode cX8_key 5 = .ok (.aload_n 0, 1) := by decide +kernel
theorem dX8_key_6 : decode cX8_key 6 = .ok (.aload_n 0, 1) := by decide +kernel
theorem dX8_key_7 : decode cX8_key 7 = .ok (.getfield 150, 3) := by decide +kernel
theorem dX8_key_10 : decode cX8_key 10 = .ok (.putfield 153, 3) := by decide +kernel
theorem dX8_key_13 : decode cX8_key 13 = .ok (.iconst 0, 1) := by decide +kernel
theorem dX8_key_14 : decode cX8_key 14 = .ok (.istore_n 1, 1) := by decide +kernel
theorem dX8_key_15 : decode cX8_key 15 = .ok (.iload_n 1, 1) := by decide +kernel
theorem dX8_key_16 : decode cX8_key 16 = .ok (.aload_n 0, 1) := by decide +kernel
theorem dX8_key_17 : decode cX8_key 17 = .ok (.getfield 150, 3) := by decide +kernel
theorem dX8_key_20 : decode cX8_key 20 = .ok (.if_icmp .ge 21, 3) := by decide +kernel
theorem dX8_key_23 : decode cX8_key 23 = .ok (.aload_n 0, 1) := by decide +kernel
theorem dX8_key_24 : decode cX8_key 24 = .ok (.getfield 41, 3) := by decide +kernel
theorem dX8_key_27 : decode cX8_key 27 = .ok (.iload_n 1, 1) := by decide +kernel
theorem dX8_key_28 : decode cX8_key 28 = .ok (.aload_n 0, 1) := by decide +kernel
theorem dX8_key_29 : decode cX8_key 29 = .ok (.getfield 38, 3) := by decide +kernel
theorem dX8_key_32 : decode cX8_key 32 = .ok (.iload_n 1, 1) := by decide +kernel
theorem dX8_key_33 : decode cX8_key 33 = .ok (.iaload, 1) := by decide +kernel
theorem dX8_key_34 : decode cX8_key 34 = .ok (.iastore, 1) := by decide +kernel
theorem dX8_key_35 : decode cX8_key 35 = .ok (.iinc 1 1, 3) := by decide +kernel
theorem dX8_key_38 : decode cX8_key 38 = .ok (.goto (-23), 3) := by decide +kernel
theorem dX8_key_41 : decode cX8_key 41 = .ok (.aload_n 0, 1) := by decide +kernel
theorem dX8_key_42 : decode cX8_key 42 = .ok (.iconst 0, 1) := by decide +kernel
theorem dX8_key_43 : decode cX8_key 43 = .ok (.putfield 150, 3) := by decide +kernel
theorem dX8_key_46 : decode cX8_key 46 = .ok (.aload_n 0, 1) := by decide +kernel
theorem dX8_key_47 : decode cX8_key 47 = .ok (.getfield 153, 3) := by decide +kernel
theorem dX8_key_50 : decode cX8_key 50 = .ok (.ireturn, 1) := by decide +kernel
theorem dX8_long32_0 : decode cX8_long32 0 = .ok (.iload_n 0, 1) := by decide +kernel
theorem dX8_long32_1 : decode cX8_long32 1 = .ok (.iconst 1, 1) := by decide +kernel
theorem dX8_long32_2 : decode cX8_long32 2 = .ok (.if_icmp .ne 8, 3) := by decide +kernel
theorem dX8_long32_5 : decode cX8_long32 5 = .ok (.bipush 28, 2) := by decide +kernel
theorem dX8_long32_7 : decode cX8_long32 7 = .ok (.goto 5, 3) := by decide +kernel
theorem dX8_long32_10 : decode cX8_long32 10 = .ok (.bipush 32, 2) := by decide +kernel
theorem dX8_long32_12 : decode cX8_long32 12 = .ok (.ireturn, 1) := by decide +kernel
theorem dX8_keepDigest_0 : decode cX8_keepDigest 0 = .ok (.aload_n 0, 1) := by decide +kernel
theorem dX8_keepDigest_1 : decode cX8_keepDigest 1 = .ok (.getfield 44, 3) := by decide +kernel
theorem dX8_keepDigest_4 : decode cX8_keepDigest 4 = .ok (.aload_n 0, 1) := by decide +kernel
theorem dX8_keepDigest_5 : decode cX8_keepDigest 5 = .ok (.getfield 156, 3) := by decide +kernel
theorem dX8_keepDigest_8 : decode cX8_keepDigest 8 = .ok (.iload_n 1, 1) := by decide +kernel
theorem dX8_keepDigest_9 : decode cX8_keepDigest 9 = .ok (.iastore, 1) := by decide +kernel
theorem dX8_keepDigest_10 : decode cX8_keepDigest 10 = .ok (.aload_n 0, 1) := by decide +kernel
theorem dX8_keepDigest_11 : decode cX8_keepDigest 11 = .ok (.getfield 47, 3) := by decide +kernel
theorem dX8_keepDigest_14 : decode cX8_keepDigest 14 = .ok (.aload_n 0, 1) := by decide +kernel
theorem dX8_keepDigest_15 : decode cX8_keepDigest 15 = .ok (.getfield 156, 3) := by decide +kernel
theorem dX8_keepDigest_18 : decode cX8_keepDigest 18 = .ok (.aload_n 0, 1) := by decide +kernel
theorem dX8_keepDigest_19 : decode cX8_keepDigest 19 = .ok (.getfield 137, 3) := by decide +kernel
theorem dX8_keepDigest_22 : decode cX8_keepDigest 22 = .ok (.iastore, 1) := by decide +kernel
theorem dX8_keepDigest_23 : decode cX8_keepDigest 23 = .ok (.iconst 0, 1) := by decide +kernel
theorem dX8_keepDigest_24 : decode cX8_keepDigest 24 = .ok (.istore_n 2, 1) := by decide +kernel
theorem dX8_keepDigest_25 : decode cX8_keepDigest 25 = .ok (.iload_n 2, 1) := by decide +kernel
theorem dX8_keepDigest_26 : decode cX8_keepDigest 26 = .ok (.bipush 32, 2) := by decide +kernel
theorem dX8_keepDigest_28 : decode cX8_keepDigest 28 = .ok (.if_icmp .ge 28, 3) := by decide +kernel
theorem dX8_keepDigest_31 : decode cX8_keepDigest 31 = .ok (.aload_n 0, 1) := by decide +kernel
theorem dX8_keepDigest_32 : decode cX8_keepDigest 32 = .ok (.getfield 50, 3) := by decide +kernel
theorem dX8_keepDigest_35 : decode cX8_keepDigest 35 = .ok (.bipush 32, 2) := by decide +kernel
theorem dX8_keepDigest_37 : decode cX8_keepDigest 37 = .ok (.aload_n 0, 1) := by decide +kernel
theorem dX8_keepDigest_38 : decode cX8_keepDigest 38 = .ok (.getfield 156, 3) := by decide +kernel
theorem dX8_keepDigest_41 : decode cX8_keepDigest 41 = .ok (.imul, 1) := by decide +kernel
theorem dX8_keepDigest_42 : decode cX8_keepDigest 42 = .ok (.iload_n 2, 1) := by decide +kernel
theorem dX8_keepDigest_43 : decode cX8_keepDigest 43 = .ok (.iadd, 1) := by decide +kernel
theorem dX8_keepDigest_44 : decode cX8_keepDigest 44 = .ok (.aload_n 0, 1) := by decide +kernel
theorem dX8_keepDigest_45 : decode cX8_keepDigest 45 = .ok (.iload_n 2, 1) := by decide +kernel
theorem dX8_keepDigest_46 : decode cX8_keepDigest 46 = .ok (.invokevirtual 159, 3) := by decide +kernel
theorem dX8_keepDigest_49 : decode cX8_keepDigest 49 = .ok (.iastore, 1) := by decide +kernel
theorem dX8_keepDigest_50 : decode cX8_keepDigest 50 = .ok (.iinc 2 1, 3) := by decide +kernel
theorem dX8_keepDigest_53 : decode cX8_keepDigest 53 = .ok (.goto (-28), 3) := by decide +kernel
theorem dX8_keepDigest_56 : decode cX8_keepDigest 56 = .ok (.iconst 0, 1) := by decide +kernel
theorem dX8_keepDigest_57 : decode cX8_keepDigest 57 = .ok (.istore_n 2, 1) := by decide +kernel
theorem dX8_keepDigest_58 : decode cX8_keepDigest 58 = .ok (.iload_n 2, 1) := by decide +kernel
theorem dX8_keepDigest_59 : decode cX8_keepDigest 59 = .ok (.bipush 64, 2) := by decide +kernel
theorem dX8_keepDigest_61 : decode cX8_keepDigest 61 = .ok (.if_icmp .ge 29, 3) := by decide +kernel
theorem dX8_keepDigest_64 : decode cX8_keepDigest 64 = .ok (.aload_n 0, 1) := by decide +kernel
theorem dX8_keepDigest_65 : decode cX8_keepDigest 65 = .ok (.getfield 53, 3) := by decide +kernel
theorem dX8_keepDigest_68 : decode cX8_keepDigest 68 = .ok (.bipush 64, 2) := by decide +kernel
theorem dX8_keepDigest_70 : decode cX8_keepDigest 70 = .ok (.aload_n 0, 1) := by decide +kernel
theorem dX8_keepDigest_71 : decode cX8_keepDigest 71 = .ok (.getfield 156, 3) := by decide +kernel
theorem dX8_keepDigest_74 : decode cX8_keepDigest 74 = .ok (.imul, 1) := by decide +kernel
theorem dX8_keepDigest_75 : decode cX8_keepDigest 75 = .ok (.iload_n 2, 1) := by decide +kernel
theorem dX8_keepDigest_76 : decode cX8_keepDigest 76 = .ok (.iadd, 1) := by decide +kernel
theorem dX8_keepDigest_77 : decode cX8_keepDigest 77 = .ok (.aload_n 0, 1) := by decide +kernel
theorem dX8_keepDigest_78 : decode cX8_keepDigest 78 = .ok (.getfield 35, 3) := by decide +kernel
theorem dX8_keepDigest_81 : decode cX8_keepDigest 81 = .ok (.iload_n 2, 1) := by decide +kernel
theorem dX8_keepDigest_82 : decode cX8_keepDigest 82 = .ok (.iaload, 1) := by decide +kernel
theorem dX8_keepDigest_83 : decode cX8_keepDigest 83 = .ok (.iastore, 1) := by decide +kernel
theorem dX8_keepDigest_84 : decode cX8_keepDigest 84 = .ok (.iinc 2 1, 3) := by decide +kernel
theorem dX8_keepDigest_87 : decode cX8_keepDigest 87 = .ok (.goto (-29), 3) := by decide +kernel
theorem dX8_keepDigest_90 : decode cX8_keepDigest 90 = .ok (.aload_n 0, 1) := by decide +kernel
theorem dX8_keepDigest_91 : decode cX8_keepDigest 91 = .ok (.dup, 1) := by decide +kernel
theorem dX8_keepDigest_92 : decode cX8_keepDigest 92 = .ok (.getfield 156, 3) := by decide +kernel
theorem dX8_keepDigest_95 : decode cX8_keepDigest 95 = .ok (.iconst 1, 1) := by decide +kernel
theorem dX8_keepDigest_96 : decode cX8_keepDigest 96 = .ok (.iadd, 1) := by decide +kernel
theorem dX8_keepDigest_97 : decode cX8_keepDigest 97 = .ok (.putfield 156, 3) := by decide +kernel
theorem dX8_keepDigest_100 : decode cX8_keepDigest 100 = .ok (.aload_n 0, 1) := by decide +kernel
theorem dX8_keepDigest_101 : decode cX8_keepDigest 101 = .ok (.getfield 156, 3) := by decide +kernel
theorem dX8_keepDigest_104 : decode cX8_keepDigest 104 = .ok (.iconst 1, 1) := by decide +kernel
theorem dX8_keepDigest_105 : decode cX8_keepDigest 105 = .ok (.isub, 1) := by decide +kernel
theorem dX8_keepDigest_106 : decode cX8_keepDigest 106 = .ok (.ireturn, 1) := by decide +kernel
theorem dX8_padKey_0 : decode cX8_padKey 0 = .ok (.aload_n 0, 1) := by decide +kernel
theorem dX8_padKey_1 : decode cX8_padKey 1 = .ok (.iconst 0, 1) := by decide +kernel
theorem dX8_padKey_2 : decode cX8_padKey 2 = .ok (.putfield 137, 3) := by decide +kernel
theorem dX8_padKey_5 : decode cX8_padKey 5 = .ok (.iconst 0, 1) := by decide +kernel
theorem dX8_padKey_6 : decode cX8_padKey 6 = .ok (.istore_n 2, 1) := by decide +kernel
theorem dX8_padKey_7 : decode cX8_padKey 7 = .ok (.iload_n 2, 1) := by decide +kernel
theorem dX8_padKey_8 : decode cX8_padKey 8 = .ok (.bipush 64, 2) := by decide +kernel
theorem dX8_padKey_10 : decode cX8_padKey 10 = .ok (.if_icmp .ge 47, 3) := by decide +kernel
theorem dX8_padKey_13 : decode cX8_padKey 13 = .ok (.aload_n 0, 1) := by decide +kernel
theorem dX8_padKey_14 : decode cX8_padKey 14 = .ok (.getfield 56, 3) := by decide +kernel
theorem dX8_padKey_17 : decode cX8_padKey 17 = .ok (.bipush 64, 2) := by decide +kernel
theorem dX8_padKey_19 : decode cX8_padKey 19 = .ok (.iload_n 1, 1) := by decide +kernel
theorem dX8_padKey_20 : decode cX8_padKey 20 = .ok (.imul, 1) := by decide +kernel
theorem dX8_padKey_21 : decode cX8_padKey 21 = .ok (.iload_n 2, 1) := by decide +kernel
theorem dX8_padKey_22 : decode cX8_padKey 22 = .ok (.iadd, 1) := by decide +kernel
theorem dX8_padKey_23 : decode cX8_padKey 23 = .ok (.aload_n 0, 1) := by decide +kernel
theorem dX8_padKey_24 : decode cX8_padKey 24 = .ok (.getfield 153, 3) := by decide +kernel
theorem dX8_padKey_27 : decode cX8_padKey 27 = .ok (.bipush 64, 2) := by decide +kernel
theorem dX8_padKey_29 : decode cX8_padKey 29 = .ok (.if_icmp .gt 20, 3) := by decide +kernel
theorem dX8_padKey_32 : decode cX8_padKey 32 = .ok (.iload_n 2, 1) := by decide +kernel
theorem dX8_padKey_33 : decode cX8_padKey 33 = .ok (.aload_n 0, 1) := by decide +kernel
theorem dX8_padKey_34 : decode cX8_padKey 34 = .ok (.getfield 153, 3) := by decide +kernel
theorem dX8_padKey_37 : decode cX8_padKey 37 = .ok (.if_icmp .ge 12, 3) := by decide +kernel
theorem dX8_padKey_40 : decode cX8_padKey 40 = .ok (.aload_n 0, 1) := by decide +kernel
theorem dX8_padKey_41 : decode cX8_padKey 41 = .ok (.getfield 41, 3) := by decide +kernel
theorem dX8_padKey_44 : decode cX8_padKey 44 = .ok (.iload_n 2, 1) := by decide +kernel
theorem dX8_padKey_45 : decode cX8_padKey 45 = .ok (.iaload, 1) := by decide +kernel
theorem dX8_padKey_46 : decode cX8_padKey 46 = .ok (.goto 4, 3) := by decide +kernel
theorem dX8_padKey_49 : decode cX8_padKey 49 = .ok (.iconst 0, 1) := by decide +kernel
theorem dX8_padKey_50 : decode cX8_padKey 50 = .ok (.iastore, 1) := by decide +kernel
theorem dX8_padKey_51 : decode cX8_padKey 51 = .ok (.iinc 2 1, 3) := by decide +kernel
theorem dX8_padKey_54 : decode cX8_padKey 54 = .ok (.goto (-47), 3) := by decide +kernel
theorem dX8_padKey_57 : decode cX8_padKey 57 = .ok (.aload_n 0, 1) := by decide +kernel
theorem dX8_padKey_58 : decode cX8_padKey 58 = .ok (.getfield 153, 3) := by decide +kernel
theorem dX8_padKey_61 : decode cX8_padKey 61 = .ok (.bipush 64, 2) := by decide +kernel
theorem dX8_padKey_63 : decode cX8_padKey 63 = .ok (.if_icmp .le 69, 3) := by decide +kernel
theorem dX8_padKey_66 : decode cX8_padKey 66 = .ok (.aload_n 0, 1) := by decide +kernel
theorem dX8_padKey_67 : decode cX8_padKey 67 = .ok (.iconst 0, 1) := by decide +kernel
theorem dX8_padKey_68 : decode cX8_padKey 68 = .ok (.putfield 122, 3) := by decide +kernel
theorem dX8_padKey_71 : decode cX8_padKey 71 = .ok (.iconst 0, 1) := by decide +kernel
theorem dX8_padKey_72 : decode cX8_padKey 72 = .ok (.istore_n 2, 1) := by decide +kernel
theorem dX8_padKey_73 : decode cX8_padKey 73 = .ok (.iload_n 2, 1) := by decide +kernel
theorem dX8_padKey_74 : decode cX8_padKey 74 = .ok (.aload_n 0, 1) := by decide +kernel
theorem dX8_padKey_75 : decode cX8_padKey 75 = .ok (.getfield 153, 3) := by decide +kernel
theorem dX8_padKey_78 : decode cX8_padKey 78 = .ok (.if_icmp .ge 19, 3) := by decide +kernel
theorem dX8_padKey_81 : decode cX8_padKey 81 = .ok (.aload_n 0, 1) := by decide +kernel
theorem dX8_padKey_82 : decode cX8_padKey 82 = .ok (.aload_n 0, 1) := by decide +kernel
theorem dX8_padKey_83 : decode cX8_padKey 83 = .ok (.getfield 41, 3) := by decide +kernel
theorem dX8_padKey_86 : decode cX8_padKey 86 = .ok (.iload_n 2, 1) := by decide +kernel
theorem dX8_padKey_87 : decode cX8_padKey 87 = .ok (.iaload, 1) := by decide +kernel
theorem dX8_padKey_88 : decode cX8_padKey 88 = .ok (.invokevirtual 128, 3) := by decide +kernel
theorem dX8_padKey_91 : decode cX8_padKey 91 = .ok (.iinc 2 1, 3) := by decide +kernel
theorem dX8_padKey_94 : decode cX8_padKey 94 = .ok (.goto (-21), 3) := by decide +kernel
theorem dX8_padKey_97 : decode cX8_padKey 97 = .ok (.aload_n 0, 1) := by decide +kernel
theorem dX8_padKey_98 : decode cX8_padKey 98 = .ok (.iconst 0, 1) := by decide +kernel
theorem dX8_padKey_99 : decode cX8_padKey 99 = .ok (.invokevirtual 162, 3) := by decide +kernel
theorem dX8_padKey_102 : decode cX8_padKey 102 = .ok (.iconst 0, 1) := by decide +kernel
theorem dX8_padKey_103 : decode cX8_padKey 103 = .ok (.istore_n 2, 1) := by decide +kernel
theorem dX8_padKey_104 : decode cX8_padKey 104 = .ok (.iload_n 2, 1) := by decide +kernel
theorem dX8_padKey_105 : decode cX8_padKey 105 = .ok (.bipush 32, 2) := by decide +kernel
theorem dX8_padKey_107 : decode cX8_padKey 107 = .ok (.if_icmp .ge 25, 3) := by decide +kernel
theorem dX8_padKey_110 : decode cX8_padKey 110 = .ok (.aload_n 0, 1) := by decide +kernel
theorem dX8_padKey_111 : decode cX8_padKey 111 = .ok (.getfield 56, 3) := by decide +kernel
theorem dX8_padKey_114 : decode cX8_padKey 114 = .ok (.bipush 64, 2) := by decide +kernel
theorem dX8_padKey_116 : decode cX8_padKey 116 = .ok (.iload_n 1, 1) := by decide +kernel
theorem dX8_padKey_117 : decode cX8_padKey 117 = .ok (.imul, 1) := by decide +kernel
theorem dX8_padKey_118 : decode cX8_padKey 118 = .ok (.iload_n 2, 1) := by decide +kernel
theorem dX8_padKey_119 : decode cX8_padKey 119 = .ok (.iadd, 1) := by decide +kernel
theorem dX8_padKey_120 : decode cX8_padKey 120 = .ok (.aload_n 0, 1) := by decide +kernel
theorem dX8_padKey_121 : decode cX8_padKey 121 = .ok (.iload_n 2, 1) := by decide +kernel
theorem dX8_padKey_122 : decode cX8_padKey 122 = .ok (.invokevirtual 159, 3) := by decide +kernel
theorem dX8_padKey_125 : decode cX8_padKey 125 = .ok (.iastore, 1) := by decide +kernel
theorem dX8_padKey_126 : decode cX8_padKey 126 = .ok (.iinc 2 1, 3) := by decide +kernel
theorem dX8_padKey_129 : decode cX8_padKey 129 = .ok (.goto (-25), 3) := by decide +kernel
theorem dX8_padKey_132 : decode cX8_padKey 132 = .ok (.aload_n 0, 1) := by decide +kernel
theorem dX8_padKey_133 : decode cX8_padKey 133 = .ok (.getfield 59, 3) := by decide +kernel
theorem dX8_padKey_136 : decode cX8_padKey 136 = .ok (.iload_n 1, 1) := by decide +kernel
theorem dX8_padKey_137 : decode cX8_padKey 137 = .ok (.aload_n 0, 1) := by decide +kernel
theorem dX8_padKey_138 : decode cX8_padKey 138 = .ok (.getfield 137, 3) := by decide +kernel
theorem dX8_padKey_141 : decode cX8_padKey 141 = .ok (.iastore, 1) := by decide +kernel
theorem dX8_padKey_142 : decode cX8_padKey 142 = .ok (.return_, 1) := by decide +kernel
theorem dX8_made_0 : decode cX8_made 0 = .ok (.iload_n 2, 1) := by decide +kernel
theorem dX8_made_1 : decode cX8_made 1 = .ok (.iconst 1, 1) := by decide +kernel
theorem dX8_made_2 : decode cX8_made 2 = .ok (.iadd, 1) := by decide +kernel
theorem dX8_made_3 : decode cX8_made 3 = .ok (.istore_n 3, 1) := by decide +kernel
theorem dX8_made_4 : decode cX8_made 4 = .ok (.iload_n 2, 1) := by decide +kernel
theorem dX8_made_5 : decode cX8_made 5 = .ok (.ifCond .ge 10, 3) := by decide +kernel
theorem dX8_made_8 : decode cX8_made 8 = .ok (.aload_n 0, 1) := by decide +kernel
theorem dX8_made_9 : decode cX8_made 9 = .ok (.getfield 150, 3) := by decide +kernel
theorem dX8_made_12 : decode cX8_made 12 = .ok (.goto 9, 3) := by decide +kernel
theorem dX8_made_15 : decode cX8_made 15 = .ok (.aload_n 0, 1) := by decide +kernel
theorem dX8_made_16 : decode cX8_made 16 = .ok (.getfield 65, 3) := by decide +kernel
theorem dX8_made_19 : decode cX8_made 19 = .ok (.iload_n 2, 1) := by decide +kernel
theorem dX8_made_20 : decode cX8_made 20 = .ok (.iaload, 1) := by decide +kernel
theorem dX8_made_21 : decode cX8_made 21 = .ok (.istore 4, 2) := by decide +kernel
theorem dX8_made_23 : decode cX8_made 23 = .ok (.aload_n 0, 1) := by decide +kernel
theorem dX8_made_24 : decode cX8_made 24 = .ok (.iload_n 1, 1) := by decide +kernel
theorem dX8_made_25 : decode cX8_made 25 = .ok (.iconst 2, 1) := by decide +kernel
theorem dX8_made_26 : decode cX8_made 26 = .ok (.if_icmp .ne 12, 3) := by decide +kernel
theorem dX8_made_29 : decode cX8_made 29 = .ok (.aload_n 0, 1) := by decide +kernel
theorem dX8_made_30 : decode cX8_made 30 = .ok (.getfield 59, 3) := by decide +kernel
theorem dX8_made_33 : decode cX8_made 33 = .ok (.iload_n 3, 1) := by decide +kernel
theorem dX8_made_34 : decode cX8_made 34 = .ok (.iaload, 1) := by decide +kernel
theorem dX8_made_35 : decode cX8_made 35 = .ok (.goto 4, 3) := by decide +kernel
theorem dX8_made_38 : decode cX8_made 38 = .ok (.iconst 0, 1) := by decide +kernel
theorem dX8_made_39 : decode cX8_made 39 = .ok (.putfield 137, 3) := by decide +kernel
theorem dX8_made_42 : decode cX8_made 42 = .ok (.aload_n 0, 1) := by decide +kernel
theorem dX8_made_43 : decode cX8_made 43 = .ok (.iconst 0, 1) := by decide +kernel
theorem dX8_made_44 : decode cX8_made 44 = .ok (.putfield 122, 3) := by decide +kernel
theorem dX8_made_47 : decode cX8_made 47 = .ok (.iconst 0, 1) := by decide +kernel
theorem dX8_made_48 : decode cX8_made 48 = .ok (.istore 5, 2) := by decide +kernel
theorem dX8_made_50 : decode cX8_made 50 = .ok (.iload_n 1, 1) := by decide +kernel
theorem dX8_made_51 : decode cX8_made 51 = .ok (.iconst 2, 1) := by decide +kernel
theorem dX8_made_52 : decode cX8_made 52 = .ok (.if_icmp .ne 35, 3) := by decide +kernel
theorem dX8_made_55 : decode cX8_made 55 = .ok (.iload 5, 2) := by decide +kernel
theorem dX8_made_57 : decode cX8_made 57 = .ok (.bipush 64, 2) := by decide +kernel
theorem dX8_made_59 : decode cX8_made 59 = .ok (.if_icmp .ge 28, 3) := by decide +kernel
theorem dX8_made_62 : decode cX8_made 62 = .ok (.aload_n 0, 1) := by decide +kernel
theorem dX8_made_63 : decode cX8_made 63 = .ok (.aload_n 0, 1) := by decide +kernel
theorem dX8_made_64 : decode cX8_made 64 = .ok (.getfield 56, 3) := by decide +kernel
theorem dX8_made_67 : decode cX8_made 67 = .ok (.bipush 64, 2) := by decide +kernel
theorem dX8_made_69 : decode cX8_made 69 = .ok (.iload_n 3, 1) := by decide +kernel
theorem dX8_made_70 : decode cX8_made 70 = .ok (.imul, 1) := by decide +kernel
theorem dX8_made_71 : decode cX8_made 71 = .ok (.iload 5, 2) := by decide +kernel
theorem dX8_made_73 : decode cX8_made 73 = .ok (.iadd, 1) := by decide +kernel
theorem dX8_made_74 : decode cX8_made 74 = .ok (.iaload, 1) := by decide +kernel
theorem dX8_made_75 : decode cX8_made 75 = .ok (.bipush 54, 2) := by decide +kernel
theorem dX8_made_77 : decode cX8_made 77 = .ok (.ixor, 1) := by decide +kernel
theorem dX8_made_78 : decode cX8_made 78 = .ok (.invokevirtual 128, 3) := by decide +kernel
theorem dX8_made_81 : decode cX8_made 81 = .ok (.iinc 5 1, 3) := by decide +kernel
theorem dX8_made_84 : decode cX8_made 84 = .ok (.goto (-34), 3) := by decide +kernel
theorem dX8_made_87 : decode cX8_made 87 = .ok (.iconst 0, 1) := by decide +kernel
theorem dX8_made_88 : decode cX8_made 88 = .ok (.istore 5, 2) := by decide +kernel
theorem dX8_made_90 : decode cX8_made 90 = .ok (.iload 5, 2) := by decide +kernel
theorem dX8_made_92 : decode cX8_made 92 = .ok (.iload 4, 2) := by decide +kernel
theorem dX8_made_94 : decode cX8_made 94 = .ok (.if_icmp .ge 40, 3) := by decide +kernel
theorem dX8_made_97 : decode cX8_made 97 = .ok (.aload_n 0, 1) := by decide +kernel
theorem dX8_made_98 : decode cX8_made 98 = .ok (.iload_n 2, 1) := by decide +kernel
theorem dX8_made_99 : decode cX8_made 99 = .ok (.ifCond .ge 13, 3) := by decide +kernel
theorem dX8_made_102 : decode cX8_made 102 = .ok (.aload_n 0, 1) := by decide +kernel
theorem dX8_made_103 : decode cX8_made 103 = .ok (.getfield 38, 3) := by decide +kernel
theorem dX8_made_106 : decode cX8_made 106 = .ok (.iload 5, 2) := by decide +kernel
theorem dX8_made_108 : decode cX8_made 108 = .ok (.iaload, 1) := by decide +kernel
theorem dX8_made_109 : decode cX8_made 109 = .ok (.goto 16, 3) := by decide +kernel
theorem dX8_made_112 : decode cX8_made 112 = .ok (.aload_n 0, 1) := by decide +kernel
theorem dX8_made_113 : decode cX8_made 113 = .ok (.getfield 62, 3) := by decide +kernel
theorem dX8_made_116 : decode cX8_made 116 = .ok (.sipush 2000, 3) := by decide +kernel
theorem dX8_made_119 : decode cX8_made 119 = .ok (.iload_n 2, 1) := by decide +kernel
theorem dX8_made_120 : decode cX8_made 120 = .ok (.imul, 1) := by decide +kernel
theorem dX8_made_121 : decode cX8_made 121 = .ok (.iload 5, 2) := by decide +kernel
theorem dX8_made_123 : decode cX8_made 123 = .ok (.iadd, 1) := by decide +kernel
theorem dX8_made_124 : decode cX8_made 124 = .ok (.iaload, 1) := by decide +kernel
theorem dX8_made_125 : decode cX8_made 125 = .ok (.invokevirtual 128, 3) := by decide +kernel
theorem dX8_made_128 : decode cX8_made 128 = .ok (.iinc 5 1, 3) := by decide +kernel
theorem dX8_made_131 : decode cX8_made 131 = .ok (.goto (-41), 3) := by decide +kernel
theorem dX8_made_134 : decode cX8_made 134 = .ok (.aload_n 0, 1) := by decide +kernel
theorem dX8_made_135 : decode cX8_made 135 = .ok (.iload_n 1, 1) := by decide +kernel
theorem dX8_made_136 : decode cX8_made 136 = .ok (.iconst 1, 1) := by decide +kernel
theorem dX8_made_137 : decode cX8_made 137 = .ok (.if_icmp .ne 7, 3) := by decide +kernel
theorem dX8_made_140 : decode cX8_made 140 = .ok (.iconst 1, 1) := by decide +kernel
theorem dX8_made_141 : decode cX8_made 141 = .ok (.goto 4, 3) := by decide +kernel
theorem dX8_made_144 : decode cX8_made 144 = .ok (.iconst 0, 1) := by decide +kernel
theorem dX8_made_145 : decode cX8_made 145 = .ok (.invokevirtual 162, 3) := by decide +kernel
theorem dX8_made_148 : decode cX8_made 148 = .ok (.iload_n 1, 1) := by decide +kernel
theorem dX8_made_149 : decode cX8_made 149 = .ok (.iconst 2, 1) := by decide +kernel
theorem dX8_made_150 : decode cX8_made 150 = .ok (.if_icmp .ne 117, 3) := by decide +kernel
theorem dX8_made_153 : decode cX8_made 153 = .ok (.iconst 0, 1) := by decide +kernel
theorem dX8_made_154 : decode cX8_made 154 = .ok (.istore 5, 2) := by decide +kernel
theorem dX8_made_156 : decode cX8_made 156 = .ok (.iload 5, 2) := by decide +kernel
theorem dX8_made_158 : decode cX8_made 158 = .ok (.bipush 8, 2) := by decide +kernel
theorem dX8_made_160 : decode cX8_made 160 = .ok (.if_icmp .ge 23, 3) := by decide +kernel
theorem dX8_made_163 : decode cX8_made 163 = .ok (.aload_n 0, 1) := by decide +kernel
theorem dX8_made_164 : decode cX8_made 164 = .ok (.getfield 71, 3) := by decide +kernel
theorem dX8_made_167 : decode cX8_made 167 = .ok (.iload 5, 2) := by decide +kernel
theorem dX8_made_169 : decode cX8_made 169 = .ok (.aload_n 0, 1) := by decide +kernel
theorem dX8_made_170 : decode cX8_made 170 = .ok (.getfield 32, 3) := by decide +kernel
theorem dX8_made_173 : decode cX8_made 173 = .ok (.iload 5, 2) := by decide +kernel
theorem dX8_made_175 : decode cX8_made 175 = .ok (.iaload, 1) := by decide +kernel
theorem dX8_made_176 : decode cX8_made 176 = .ok (.iastore, 1) := by decide +kernel
theorem dX8_made_177 : decode cX8_made 177 = .ok (.iinc 5 1, 3) := by decide +kernel
theorem dX8_made_180 : decode cX8_made 180 = .ok (.goto (-24), 3) := by decide +kernel
theorem dX8_made_183 : decode cX8_made 183 = .ok (.iconst 0, 1) := by decide +kernel
theorem dX8_made_184 : decode cX8_made 184 = .ok (.istore 5, 2) := by decide +kernel
theorem dX8_made_186 : decode cX8_made 186 = .ok (.iload 5, 2) := by decide +kernel
theorem dX8_made_188 : decode cX8_made 188 = .ok (.bipush 64, 2) := by decide +kernel
theorem dX8_made_190 : decode cX8_made 190 = .ok (.if_icmp .ge 28, 3) := by decide +kernel
theorem dX8_made_193 : decode cX8_made 193 = .ok (.aload_n 0, 1) := by decide +kernel
theorem dX8_made_194 : decode cX8_made 194 = .ok (.aload_n 0, 1) := by decide +kernel
theorem dX8_made_195 : decode cX8_made 195 = .ok (.getfield 56, 3) := by decide +kernel
theorem dX8_made_198 : decode cX8_made 198 = .ok (.bipush 64, 2) := by decide +kernel
theorem dX8_made_200 : decode cX8_made 200 = .ok (.iload_n 3, 1) := by decide +kernel
theorem dX8_made_201 : decode cX8_made 201 = .ok (.imul, 1) := by decide +kernel
theorem dX8_made_202 : decode cX8_made 202 = .ok (.iload 5, 2) := by decide +kernel
theorem dX8_made_204 : decode cX8_made 204 = .ok (.iadd, 1) := by decide +kernel
theorem dX8_made_205 : decode cX8_made 205 = .ok (.iaload, 1) := by decide +kernel
theorem dX8_made_206 : decode cX8_made 206 = .ok (.bipush 92, 2) := by decide +kernel
theorem dX8_made_208 : decode cX8_made 208 = .ok (.ixor, 1) := by decide +kernel
theorem dX8_made_209 : decode cX8_made 209 = .ok (.invokevirtual 128, 3) := by decide +kernel
theorem dX8_made_212 : decode cX8_made 212 = .ok (.iinc 5 1, 3) := by decide +kernel
theorem dX8_made_215 : decode cX8_made 215 = .ok (.goto (-29), 3) := by decide +kernel
theorem dX8_made_218 : decode cX8_made 218 = .ok (.iconst 0, 1) := by decide +kernel
theorem dX8_made_219 : decode cX8_made 219 = .ok (.istore 5, 2) := by decide +kernel
theorem dX8_made_221 : decode cX8_made 221 = .ok (.iload 5, 2) := by decide +kernel
theorem dX8_made_223 : decode cX8_made 223 = .ok (.bipush 32, 2) := by decide +kernel
theorem dX8_made_225 : decode cX8_made 225 = .ok (.if_icmp .ge 37, 3) := by decide +kernel
theorem dX8_made_228 : decode cX8_made 228 = .ok (.aload_n 0, 1) := by decide +kernel
theorem dX8_made_229 : decode cX8_made 229 = .ok (.aload_n 0, 1) := by decide +kernel
theorem dX8_made_230 : decode cX8_made 230 = .ok (.getfield 71, 3) := by decide +kernel
theorem dX8_made_233 : decode cX8_made 233 = .ok (.iload 5, 2) := by decide +kernel
theorem dX8_made_235 : decode cX8_made 235 = .ok (.iconst 4, 1) := by decide +kernel
theorem dX8_made_236 : decode cX8_made 236 = .ok (.idiv, 1) := by decide +kernel
theorem dX8_made_237 : decode cX8_made 237 = .ok (.iaload, 1) := by decide +kernel
theorem dX8_made_238 : decode cX8_made 238 = .ok (.bipush 24, 2) := by decide +kernel
theorem dX8_made_240 : decode cX8_made 240 = .ok (.bipush 8, 2) := by decide +kernel
theorem dX8_made_242 : decode cX8_made 242 = .ok (.iload 5, 2) := by decide +kernel
theorem dX8_made_244 : decode cX8_made 244 = .ok (.iconst 4, 1) := by decide +kernel
theorem dX8_made_245 : decode cX8_made 245 = .ok (.irem, 1) := by decide +kernel
theorem dX8_made_246 : decode cX8_made 246 = .ok (.imul, 1) := by decide +kernel
theorem dX8_made_247 : decode cX8_made 247 = .ok (.isub, 1) := by decide +kernel
theorem dX8_made_248 : decode cX8_made 248 = .ok (.iushr, 1) := by decide +kernel
theorem dX8_made_249 : decode cX8_made 249 = .ok (.sipush 255, 3) := by decide +kernel
theorem dX8_made_252 : decode cX8_made 252 = .ok (.iand, 1) := by decide +kernel
theorem dX8_made_253 : decode cX8_made 253 = .ok (.invokevirtual 128, 3) := by decide +kernel
theorem dX8_made_256 : decode cX8_made 256 = .ok (.iinc 5 1, 3) := by decide +kernel
theorem dX8_made_259 : decode cX8_made 259 = .ok (.goto (-38), 3) := by decide +kernel
theorem dX8_made_262 : decode cX8_made 262 = .ok (.aload_n 0, 1) := by decide +kernel
theorem dX8_made_263 : decode cX8_made 263 = .ok (.iconst 0, 1) := by decide +kernel
theorem dX8_made_264 : decode cX8_made 264 = .ok (.invokevirtual 162, 3) := by decide +kernel
theorem dX8_made_267 : decode cX8_made 267 = .ok (.aload_n 0, 1) := by decide +kernel
theorem dX8_made_268 : decode cX8_made 268 = .ok (.iload_n 1, 1) := by decide +kernel
theorem dX8_made_269 : decode cX8_made 269 = .ok (.invokevirtual 166, 3) := by decide +kernel
theorem dX8_made_272 : decode cX8_made 272 = .ok (.ireturn, 1) := by decide +kernel
theorem dX8_digest_0 : decode cX8_digest 0 = .ok (.aload_n 0, 1) := by decide +kernel
theorem dX8_digest_1 : decode cX8_digest 1 = .ok (.iconst 0, 1) := by decide +kernel
theorem dX8_digest_2 : decode cX8_digest 2 = .ok (.putfield 143, 3) := by decide +kernel
theorem dX8_digest_5 : decode cX8_digest 5 = .ok (.iload_n 1, 1) := by decide +kernel
theorem dX8_digest_6 : decode cX8_digest 6 = .ok (.iconst 0, 1) := by decide +kernel
theorem dX8_digest_7 : decode cX8_digest 7 = .ok (.iconst 2, 1) := by decide +kernel
theorem dX8_digest_8 : decode cX8_digest 8 = .ok (.invokestatic 146, 3) := by decide +kernel
theorem dX8_digest_11 : decode cX8_digest 11 = .ok (.ifCond .ne 6, 3) := by decide +kernel
theorem dX8_digest_14 : decode cX8_digest 14 = .ok (.bipush (-102), 2) := by decide +kernel
theorem dX8_digest_16 : decode cX8_digest 16 = .ok (.ireturn, 1) := by decide +kernel
theorem dX8_digest_17 : decode cX8_digest 17 = .ok (.aload_n 0, 1) := by decide +kernel
theorem dX8_digest_18 : decode cX8_digest 18 = .ok (.getfield 156, 3) := by decide +kernel
theorem dX8_digest_21 : decode cX8_digest 21 = .ok (.bipush 60, 2) := by decide +kernel
theorem dX8_digest_23 : decode cX8_digest 23 = .ok (.if_icmp .ne 6, 3) := by decide +kernel
theorem dX8_digest_26 : decode cX8_digest 26 = .ok (.bipush (-103), 2) := by decide +kernel
theorem dX8_digest_28 : decode cX8_digest 28 = .ok (.ireturn, 1) := by decide +kernel
theorem dX8_digest_29 : decode cX8_digest 29 = .ok (.iload_n 1, 1) := by decide +kernel
theorem dX8_digest_30 : decode cX8_digest 30 = .ok (.iconst 2, 1) := by decide +kernel
theorem dX8_digest_31 : decode cX8_digest 31 = .ok (.if_icmp .ne 8, 3) := by decide +kernel
theorem dX8_digest_34 : decode cX8_digest 34 = .ok (.aload_n 0, 1) := by decide +kernel
theorem dX8_digest_35 : decode cX8_digest 35 = .ok (.iconst 0, 1) := by decide +kernel
theorem dX8_digest_36 : decode cX8_digest 36 = .ok (.invokevirtual 169, 3) := by decide +kernel
theorem dX8_digest_39 : decode cX8_digest 39 = .ok (.aload_n 0, 1) := by decide +kernel
theorem dX8_digest_40 : decode cX8_digest 40 = .ok (.iload_n 1, 1) := by decide +kernel
theorem dX8_digest_41 : decode cX8_digest 41 = .ok (.iconst (-1), 1) := by decide +kernel
theorem dX8_digest_42 : decode cX8_digest 42 = .ok (.invokevirtual 172, 3) := by decide +kernel
theorem dX8_digest_45 : decode cX8_digest 45 = .ok (.istore_n 2, 1) := by decide +kernel
theorem dX8_digest_46 : decode cX8_digest 46 = .ok (.aload_n 0, 1) := by decide +kernel
theorem dX8_digest_47 : decode cX8_digest 47 = .ok (.iconst 0, 1) := by decide +kernel
theorem dX8_digest_48 : decode cX8_digest 48 = .ok (.putfield 150, 3) := by decide +kernel
theorem dX8_digest_51 : decode cX8_digest 51 = .ok (.iload_n 2, 1) := by decide +kernel
theorem dX8_digest_52 : decode cX8_digest 52 = .ok (.ireturn, 1) := by decide +kernel
theorem dX8_open_0 : decode cX8_open 0 = .ok (.aload_n 0, 1) := by decide +kernel
theorem dX8_open_1 : decode cX8_open 1 = .ok (.iconst 0, 1) := by decide +kernel
theorem dX8_open_2 : decode cX8_open 2 = .ok (.putfield 143, 3) := by decide +kernel
theorem dX8_open_5 : decode cX8_open 5 = .ok (.iload_n 1, 1) := by decide +kernel
theorem dX8_open_6 : decode cX8_open 6 = .ok (.iconst 0, 1) := by decide +kernel
theorem dX8_open_7 : decode cX8_open 7 = .ok (.iconst 3, 1) := by decide +kernel
theorem dX8_open_8 : decode cX8_open 8 = .ok (.invokestatic 146, 3) := by decide +kernel
theorem dX8_open_11 : decode cX8_open 11 = .ok (.ifCond .eq 12, 3) := by decide +kernel
theorem dX8_open_14 : decode cX8_open 14 = .ok (.iload_n 2, 1) := by decide +kernel
theorem dX8_open_15 : decode cX8_open 15 = .ok (.iconst 0, 1) := by decide +kernel
theorem dX8_open_16 : decode cX8_open 16 = .ok (.iconst 2, 1) := by decide +kernel
theorem dX8_open_17 : decode cX8_open 17 = .ok (.invokestatic 146, 3) := by decide +kernel
theorem dX8_open_20 : decode cX8_open 20 = .ok (.ifCond .ne 6, 3) := by decide +kernel
theorem dX8_open_23 : decode cX8_open 23 = .ok (.bipush (-102), 2) := by decide +kernel
theorem dX8_open_25 : decode cX8_open 25 = .ok (.ireturn, 1) := by decide +kernel
theorem dX8_open_26 : decode cX8_open 26 = .ok (.aload_n 0, 1) := by decide +kernel
theorem dX8_open_27 : decode cX8_open 27 = .ok (.getfield 68, 3) := by decide +kernel
theorem dX8_open_30 : decode cX8_open 30 = .ok (.iload_n 1, 1) := by decide +kernel
theorem dX8_open_31 : decode cX8_open 31 = .ok (.iaload, 1) := by decide +kernel
theorem dX8_open_32 : decode cX8_open 32 = .ok (.ifCond .lt 6, 3) := by decide +kernel
theorem dX8_open_35 : decode cX8_open 35 = .ok (.bipush (-104), 2) := by decide +kernel
theorem dX8_open_37 : decode cX8_open 37 = .ok (.ireturn, 1) := by decide +kernel
theorem dX8_open_38 : decode cX8_open 38 = .ok (.aload_n 0, 1) := by decide +kernel
theorem dX8_open_39 : decode cX8_open 39 = .ok (.getfield 68, 3) := by decide +kernel
theorem dX8_open_42 : decode cX8_open 42 = .ok (.iload_n 1, 1) := by decide +kernel
theorem dX8_open_43 : decode cX8_open 43 = .ok (.iload_n 2, 1) := by decide +kernel
theorem dX8_open_44 : decode cX8_open 44 = .ok (.iastore, 1) := by decide +kernel
theorem dX8_open_45 : decode cX8_open 45 = .ok (.aload_n 0, 1) := by decide +kernel
theorem dX8_open_46 : decode cX8_open 46 = .ok (.getfield 65, 3) := by decide +kernel
theorem dX8_open_49 : decode cX8_open 49 = .ok (.iload_n 1, 1) := by decide +kernel
theorem dX8_open_50 : decode cX8_open 50 = .ok (.iconst 0, 1) := by decide +kernel
theorem dX8_open_51 : decode cX8_open 51 = .ok (.iastore, 1) := by decide +kernel
theorem dX8_open_52 : decode cX8_open 52 = .ok (.iload_n 2, 1) := by decide +kernel
theorem dX8_open_53 : decode cX8_open 53 = .ok (.iconst 2, 1) := by decide +kernel
theorem dX8_open_54 : decode cX8_open 54 = .ok (.if_icmp .ne 10, 3) := by decide +kernel
theorem dX8_open_57 : decode cX8_open 57 = .ok (.aload_n 0, 1) := by decide +kernel
theorem dX8_open_58 : decode cX8_open 58 = .ok (.iload_n 1, 1) := by decide +kernel
theorem dX8_open_59 : decode cX8_open 59 = .ok (.iconst 1, 1) := by decide +kernel
theorem dX8_open_60 : decode cX8_open 60 = .ok (.iadd, 1) := by decide +kernel
theorem dX8_open_61 : decode cX8_open 61 = .ok (.invokevirtual 169, 3) := by decide +kernel
theorem dX8_open_64 : decode cX8_open 64 = .ok (.iconst 1, 1) := by decide +kernel
theorem dX8_open_65 : decode cX8_open 65 = .ok (.ireturn, 1) := by decide +kernel
theorem dX8_more_0 : decode cX8_more 0 = .ok (.aload_n 0, 1) := by decide +kernel
theorem dX8_more_1 : decode cX8_more 1 = .ok (.iconst 0, 1) := by decide +kernel
theorem dX8_more_2 : decode cX8_more 2 = .ok (.putfield 143, 3) := by decide +kernel
theorem dX8_more_5 : decode cX8_more 5 = .ok (.iload_n 1, 1) := by decide +kernel
theorem dX8_more_6 : decode cX8_more 6 = .ok (.iconst 0, 1) := by decide +kernel
theorem dX8_more_7 : decode cX8_more 7 = .ok (.iconst 3, 1) := by decide +kernel
theorem dX8_more_8 : decode cX8_more 8 = .ok (.invokestatic 146, 3) := by decide +kernel
theorem dX8_more_11 : decode cX8_more 11 = .ok (.ifCond .ne 6, 3) := by decide +kernel
theorem dX8_more_14 : decode cX8_more 14 = .ok (.bipush (-102), 2) := by decide +kernel
theorem dX8_more_16 : decode cX8_more 16 = .ok (.ireturn, 1) := by decide +kernel
theorem dX8_more_17 : decode cX8_more 17 = .ok (.aload_n 0, 1) := by decide +kernel
theorem dX8_more_18 : decode cX8_more 18 = .ok (.getfield 68, 3) := by decide +kernel
theorem dX8_more_21 : decode cX8_more 21 = .ok (.iload_n 1, 1) := by decide +kernel
theorem dX8_more_22 : decode cX8_more 22 = .ok (.iaload, 1) := by decide +kernel
theorem dX8_more_23 : decode cX8_more 23 = .ok (.ifCond .ge 6, 3) := by decide +kernel
theorem dX8_more_26 : decode cX8_more 26 = .ok (.bipush (-104), 2) := by decide +kernel
theorem dX8_more_28 : decode cX8_more 28 = .ok (.ireturn, 1) := by decide +kernel
theorem dX8_more_29 : decode cX8_more 29 = .ok (.aload_n 0, 1) := by decide +kernel
theorem dX8_more_30 : decode cX8_more 30 = .ok (.getfield 65, 3) := by decide +kernel
theorem dX8_more_33 : decode cX8_more 33 = .ok (.iload_n 1, 1) := by decide +kernel
theorem dX8_more_34 : decode cX8_more 34 = .ok (.iaload, 1) := by decide +kernel
theorem dX8_more_35 : decode cX8_more 35 = .ok (.aload_n 0, 1) := by decide +kernel
theorem dX8_more_36 : decode cX8_more 36 = .ok (.getfield 150, 3) := by decide +kernel
theorem dX8_more_39 : decode cX8_more 39 = .ok (.iadd, 1) := by decide +kernel
theorem dX8_more_40 : decode cX8_more 40 = .ok (.sipush 2000, 3) := by decide +kernel
theorem dX8_more_43 : decode cX8_more 43 = .ok (.if_icmp .le 6, 3) := by decide +kernel
theorem dX8_more_46 : decode cX8_more 46 = .ok (.bipush (-103), 2) := by decide +kernel
theorem dX8_more_48 : decode cX8_more 48 = .ok (.ireturn, 1) := by decide +kernel
theorem dX8_more_49 : decode cX8_more 49 = .ok (.iconst 0, 1) := by decide +kernel
theorem dX8_more_50 : decode cX8_more 50 = .ok (.istore_n 2, 1) := by decide +kernel
theorem dX8_more_51 : decode cX8_more 51 = .ok (.iload_n 2, 1) := by decide +kernel
theorem dX8_more_52 : decode cX8_more 52 = .ok (.aload_n 0, 1) := by decide +kernel
theorem dX8_more_53 : decode cX8_more 53 = .ok (.getfield 150, 3) := by decide +kernel
theorem dX8_more_56 : decode cX8_more 56 = .ok (.if_icmp .ge 34, 3) := by decide +kernel
theorem dX8_more_59 : decode cX8_more 59 = .ok (.aload_n 0, 1) := by decide +kernel
theorem dX8_more_60 : decode cX8_more 60 = .ok (.getfield 62, 3) := by decide +kernel
theorem dX8_more_63 : decode cX8_more 63 = .ok (.sipush 2000, 3) := by decide +kernel
theorem dX8_more_66 : decode cX8_more 66 = .ok (.iload_n 1, 1) := by decide +kernel
theorem dX8_more_67 : decode cX8_more 67 = .ok (.imul, 1) := by decide +kernel
theorem dX8_more_68 : decode cX8_more 68 = .ok (.aload_n 0, 1) := by decide +kernel
theorem dX8_more_69 : decode cX8_more 69 = .ok (.getfield 65, 3) := by decide +kernel
theorem dX8_more_72 : decode cX8_more 72 = .ok (.iload_n 1, 1) := by decide +kernel
theorem dX8_more_73 : decode cX8_more 73 = .ok (.iaload, 1) := by decide +kernel
theorem dX8_more_74 : decode cX8_more 74 = .ok (.iadd, 1) := by decide +kernel
theorem dX8_more_75 : decode cX8_more 75 = .ok (.iload_n 2, 1) := by decide +kernel
theorem dX8_more_76 : decode cX8_more 76 = .ok (.iadd, 1) := by decide +kernel
theorem dX8_more_77 : decode cX8_more 77 = .ok (.aload_n 0, 1) := by decide +kernel
theorem dX8_more_78 : decode cX8_more 78 = .ok (.getfield 38, 3) := by decide +kernel
theorem dX8_more_81 : decode cX8_more 81 = .ok (.iload_n 2, 1) := by decide +kernel
theorem dX8_more_82 : decode cX8_more 82 = .ok (.iaload, 1) := by decide +kernel
theorem dX8_more_83 : decode cX8_more 83 = .ok (.iastore, 1) := by decide +kernel
theorem dX8_more_84 : decode cX8_more 84 = .ok (.iinc 2 1, 3) := by decide +kernel
theorem dX8_more_87 : decode cX8_more 87 = .ok (.goto (-36), 3) := by decide +kernel
theorem dX8_more_90 : decode cX8_more 90 = .ok (.aload_n 0, 1) := by decide +kernel
theorem dX8_more_91 : decode cX8_more 91 = .ok (.getfield 65, 3) := by decide +kernel
theorem dX8_more_94 : decode cX8_more 94 = .ok (.iload_n 1, 1) := by decide +kernel
theorem dX8_more_95 : decode cX8_more 95 = .ok (.dup2, 1) := by decide +kernel
theorem dX8_more_96 : decode cX8_more 96 = .ok (.iaload, 1) := by decide +kernel
theorem dX8_more_97 : decode cX8_more 97 = .ok (.aload_n 0, 1) := by decide +kernel
theorem dX8_more_98 : decode cX8_more 98 = .ok (.getfield 150, 3) := by decide +kernel
theorem dX8_more_101 : decode cX8_more 101 = .ok (.iadd, 1) := by decide +kernel
theorem dX8_more_102 : decode cX8_more 102 = .ok (.iastore, 1) := by decide +kernel
theorem dX8_more_103 : decode cX8_more 103 = .ok (.aload_n 0, 1) := by decide +kernel
theorem dX8_more_104 : decode cX8_more 104 = .ok (.iconst 0, 1) := by decide +kernel
theorem dX8_more_105 : decode cX8_more 105 = .ok (.putfield 150, 3) := by decide +kernel
theorem dX8_more_108 : decode cX8_more 108 = .ok (.aload_n 0, 1) := by decide +kernel
theorem dX8_more_109 : decode cX8_more 109 = .ok (.getfield 65, 3) := by decide +kernel
theorem dX8_more_112 : decode cX8_more 112 = .ok (.iload_n 1, 1) := by decide +kernel
theorem dX8_more_113 : decode cX8_more 113 = .ok (.iaload, 1) := by decide +kernel
theorem dX8_more_114 : decode cX8_more 114 = .ok (.ireturn, 1) := by decide +kernel
theorem dX8_end_0 : decode cX8_end 0 = .ok (.aload_n 0, 1) := by decide +kernel
theorem dX8_end_1 : decode cX8_end 1 = .ok (.iconst 0, 1) := by decide +kernel
theorem dX8_end_2 : decode cX8_end 2 = .ok (.putfield 143, 3) := by decide +kernel
theorem dX8_end_5 : decode cX8_end 5 = .ok (.iload_n 1, 1) := by decide +kernel
theorem dX8_end_6 : decode cX8_end 6 = .ok (.iconst 0, 1) := by decide +kernel
theorem dX8_end_7 : decode cX8_end 7 = .ok (.iconst 3, 1) := by decide +kernel
theorem dX8_end_8 : decode cX8_end 8 = .ok (.invokestatic 146, 3) := by decide +kernel
theorem dX8_end_11 : decode cX8_end 11 = .ok (.ifCond .ne 6, 3) := by decide +kernel
theorem dX8_end_14 : decode cX8_end 14 = .ok (.bipush (-102), 2) := by decide +kernel
theorem dX8_end_16 : decode cX8_end 16 = .ok (.ireturn, 1) := by decide +kernel
theorem dX8_end_17 : decode cX8_end 17 = .ok (.aload_n 0, 1) := by decide +kernel
theorem dX8_end_18 : decode cX8_end 18 = .ok (.getfield 68, 3) := by decide +kernel
theorem dX8_end_21 : decode cX8_end 21 = .ok (.iload_n 1, 1) := by decide +kernel
theorem dX8_end_22 : decode cX8_end 22 = .ok (.iaload, 1) := by decide +kernel
theorem dX8_end_23 : decode cX8_end 23 = .ok (.ifCond .ge 6, 3) := by decide +kernel
theorem dX8_end_26 : decode cX8_end 26 = .ok (.bipush (-104), 2) := by decide +kernel
theorem dX8_end_28 : decode cX8_end 28 = .ok (.ireturn, 1) := by decide +kernel
theorem dX8_end_29 : decode cX8_end 29 = .ok (.aload_n 0, 1) := by decide +kernel
theorem dX8_end_30 : decode cX8_end 30 = .ok (.getfield 156, 3) := by decide +kernel
theorem dX8_end_33 : decode cX8_end 33 = .ok (.bipush 60, 2) := by decide +kernel
theorem dX8_end_35 : decode cX8_end 35 = .ok (.if_icmp .ne 6, 3) := by decide +kernel
theorem dX8_end_38 : decode cX8_end 38 = .ok (.bipush (-103), 2) := by decide +kernel
theorem dX8_end_40 : decode cX8_end 40 = .ok (.ireturn, 1) := by decide +kernel
theorem dX8_end_41 : decode cX8_end 41 = .ok (.aload_n 0, 1) := by decide +kernel
theorem dX8_end_42 : decode cX8_end 42 = .ok (.aload_n 0, 1) := by decide +kernel
theorem dX8_end_43 : decode cX8_end 43 = .ok (.getfield 68, 3) := by decide +kernel
theorem dX8_end_46 : decode cX8_end 46 = .ok (.iload_n 1, 1) := by decide +kernel
theorem dX8_end_47 : decode cX8_end 47 = .ok (.iaload, 1) := by decide +kernel
theorem dX8_end_48 : decode cX8_end 48 = .ok (.iload_n 1, 1) := by decide +kernel
theorem dX8_end_49 : decode cX8_end 49 = .ok (.invokevirtual 172, 3) := by decide +kernel
theorem dX8_end_52 : decode cX8_end 52 = .ok (.istore_n 2, 1) := by decide +kernel
theorem dX8_end_53 : decode cX8_end 53 = .ok (.aload_n 0, 1) := by decide +kernel
theorem dX8_end_54 : decode cX8_end 54 = .ok (.getfield 68, 3) := by decide +kernel
theorem dX8_end_57 : decode cX8_end 57 = .ok (.iload_n 1, 1) := by decide +kernel
theorem dX8_end_58 : decode cX8_end 58 = .ok (.iconst (-1), 1) := by decide +kernel
theorem dX8_end_59 : decode cX8_end 59 = .ok (.iastore, 1) := by decide +kernel
theorem dX8_end_60 : decode cX8_end 60 = .ok (.iload_n 2, 1) := by decide +kernel
theorem dX8_end_61 : decode cX8_end 61 = .ok (.ireturn, 1) := by decide +kernel
theorem dX8_isDigest_0 : decode cX8_isDigest 0 = .ok (.iload_n 1, 1) := by decide +kernel
theorem dX8_isDigest_1 : decode cX8_isDigest 1 = .ok (.iconst 0, 1) := by decide +kernel
theorem dX8_isDigest_2 : decode cX8_isDigest 2 = .ok (.aload_n 0, 1) := by decide +kernel
theorem dX8_isDigest_3 : decode cX8_isDigest 3 = .ok (.getfield 156, 3) := by decide +kernel
theorem dX8_isDigest_6 : decode cX8_isDigest 6 = .ok (.iconst 1, 1) := by decide +kernel
theorem dX8_isDigest_7 : decode cX8_isDigest 7 = .ok (.isub, 1) := by decide +kernel
theorem dX8_isDigest_8 : decode cX8_isDigest 8 = .ok (.invokestatic 146, 3) := by decide +kernel
theorem dX8_isDigest_11 : decode cX8_isDigest 11 = .ok (.ireturn, 1) := by decide +kernel
theorem dX8_told_0 : decode cX8_told 0 = .ok (.aload_n 0, 1) := by decide +kernel
theorem dX8_told_1 : decode cX8_told 1 = .ok (.iconst 0, 1) := by decide +kernel
theorem dX8_told_2 : decode cX8_told 2 = .ok (.putfield 143, 3) := by decide +kernel
theorem dX8_told_5 : decode cX8_told 5 = .ok (.aload_n 0, 1) := by decide +kernel
theorem dX8_told_6 : decode cX8_told 6 = .ok (.iload_n 1, 1) := by decide +kernel
theorem dX8_told_7 : decode cX8_told 7 = .ok (.invokevirtual 175, 3) := by decide +kernel
theorem dX8_told_10 : decode cX8_told 10 = .ok (.ifCond .ne 6, 3) := by decide +kernel
theorem dX8_told_13 : decode cX8_told 13 = .ok (.bipush (-101), 2) := by decide +kernel
theorem dX8_told_15 : decode cX8_told 15 = .ok (.ireturn, 1) := by decide +kernel
theorem dX8_told_16 : decode cX8_told 16 = .ok (.iload_n 2, 1) := by decide +kernel
theorem dX8_told_17 : decode cX8_told 17 = .ok (.ifCond .ne 12, 3) := by decide +kernel
theorem dX8_told_20 : decode cX8_told 20 = .ok (.aload_n 0, 1) := by decide +kernel
theorem dX8_told_21 : decode cX8_told 21 = .ok (.getfield 44, 3) := by decide +kernel
theorem dX8_told_24 : decode cX8_told 24 = .ok (.iload_n 1, 1) := by decide +kernel
theorem dX8_told_25 : decode cX8_told 25 = .ok (.iaload, 1) := by decide +kernel
theorem dX8_told_26 : decode cX8_told 26 = .ok (.goto 36, 3) := by decide +kernel
theorem dX8_told_29 : decode cX8_told 29 = .ok (.iload_n 2, 1) := by decide +kernel
theorem dX8_told_30 : decode cX8_told 30 = .ok (.iconst 1, 1) := by decide +kernel
theorem dX8_told_31 : decode cX8_told 31 = .ok (.if_icmp .ne 15, 3) := by decide +kernel
theorem dX8_told_34 : decode cX8_told 34 = .ok (.aload_n 0, 1) := by decide +kernel
theorem dX8_told_35 : decode cX8_told 35 = .ok (.getfield 44, 3) := by decide +kernel
theorem dX8_told_38 : decode cX8_told 38 = .ok (.iload_n 1, 1) := by decide +kernel
theorem dX8_told_39 : decode cX8_told 39 = .ok (.iaload, 1) := by decide +kernel
theorem dX8_told_40 : decode cX8_told 40 = .ok (.invokestatic 179, 3) := by decide +kernel
theorem dX8_told_43 : decode cX8_told 43 = .ok (.goto 19, 3) := by decide +kernel
theorem dX8_told_46 : decode cX8_told 46 = .ok (.iload_n 2, 1) := by decide +kernel
theorem dX8_told_47 : decode cX8_told 47 = .ok (.iconst 2, 1) := by decide +kernel
theorem dX8_told_48 : decode cX8_told 48 = .ok (.if_icmp .ne 12, 3) := by decide +kernel
theorem dX8_told_51 : decode cX8_told 51 = .ok (.aload_n 0, 1) := by decide +kernel
theorem dX8_told_52 : decode cX8_told 52 = .ok (.getfield 47, 3) := by decide +kernel
theorem dX8_told_55 : decode cX8_told 55 = .ok (.iload_n 1, 1) := by decide +kernel
theorem dX8_told_56 : decode cX8_told 56 = .ok (.iaload, 1) := by decide +kernel
theorem dX8_told_57 : decode cX8_told 57 = .ok (.goto 5, 3) := by decide +kernel
theorem dX8_told_60 : decode cX8_told 60 = .ok (.bipush (-102), 2) := by decide +kernel
theorem dX8_told_62 : decode cX8_told 62 = .ok (.ireturn, 1) := by decide +kernel
theorem dX8_read_0 : decode cX8_read 0 = .ok (.aload_n 0, 1) := by decide +kernel
theorem dX8_read_1 : decode cX8_read 1 = .ok (.iconst 0, 1) := by decide +kernel
theorem dX8_read_2 : decode cX8_read 2 = .ok (.putfield 143, 3) := by decide +kernel
theorem dX8_read_5 : decode cX8_read 5 = .ok (.aload_n 0, 1) := by decide +kernel
theorem dX8_read_6 : decode cX8_read 6 = .ok (.iload_n 1, 1) := by decide +kernel
theorem dX8_read_7 : decode cX8_read 7 = .ok (.invokevirtual 175, 3) := by decide +kernel
theorem dX8_read_10 : decode cX8_read 10 = .ok (.ifCond .ne 7, 3) := by decide +kernel
theorem dX8_read_13 : decode cX8_read 13 = .ok (.ldc2_w 182, 3) := by decide +kernel
theorem dX8_read_16 : decode cX8_read 16 = .ok (.lreturn, 1) := by decide +kernel
theorem dX8_read_17 : decode cX8_read 17 = .ok (.iload_n 2, 1) := by decide +kernel
theorem dX8_read_18 : decode cX8_read 18 = .ok (.iconst 0, 1) := by decide +kernel
theorem dX8_read_19 : decode cX8_read 19 = .ok (.iconst 4, 1) := by decide +kernel
theorem dX8_read_20 : decode cX8_read 20 = .ok (.invokestatic 146, 3) := by decide +kernel
theorem dX8_read_23 : decode cX8_read 23 = .ok (.ifCond .ne 7, 3) := by decide +kernel
theorem dX8_read_26 : decode cX8_read 26 = .ok (.ldc2_w 184, 3) := by decide +kernel
theorem dX8_read_29 : decode cX8_read 29 = .ok (.lreturn, 1) := by decide +kernel
theorem dX8_read_30 : decode cX8_read 30 = .ok (.iload_n 2, 1) := by decide +kernel
theorem dX8_read_31 : decode cX8_read 31 = .ok (.ifCond .ne 7, 3) := by decide +kernel
theorem dX8_read_34 : decode cX8_read 34 = .ok (.iconst 1, 1) := by decide +kernel
theorem dX8_read_35 : decode cX8_read 35 = .ok (.goto 23, 3) := by decide +kernel
theorem dX8_read_38 : decode cX8_read 38 = .ok (.iload_n 2, 1) := by decide +kernel
theorem dX8_read_39 : decode cX8_read 39 = .ok (.iconst 3, 1) := by decide +kernel
theorem dX8_read_40 : decode cX8_read 40 = .ok (.if_icmp .ge 7, 3) := by decide +kernel
theorem dX8_read_43 : decode cX8_read 43 = .ok (.iconst 2, 1) := by decide +kernel
theorem dX8_read_44 : decode cX8_read 44 = .ok (.goto 14, 3) := by decide +kernel
theorem dX8_read_47 : decode cX8_read 47 = .ok (.iload_n 2, 1) := by decide +kernel
theorem dX8_read_48 : decode cX8_read 48 = .ok (.iconst 3, 1) := by decide +kernel
theorem dX8_read_49 : decode cX8_read 49 = .ok (.if_icmp .ne 7, 3) := by decide +kernel
theorem dX8_read_52 : decode cX8_read 52 = .ok (.iconst 4, 1) := by decide +kernel
theorem dX8_read_53 : decode cX8_read 53 = .ok (.goto 5, 3) := by decide +kernel
theorem dX8_read_56 : decode cX8_read 56 = .ok (.bipush 8, 2) := by decide +kernel
theorem dX8_read_58 : decode cX8_read 58 = .ok (.istore 4, 2) := by decide +kernel
theorem dX8_read_60 : decode cX8_read 60 = .ok (.iload_n 3, 1) := by decide +kernel
theorem dX8_read_61 : decode cX8_read 61 = .ok (.iconst 0, 1) := by decide +kernel
theorem dX8_read_62 : decode cX8_read 62 = .ok (.aload_n 0, 1) := by decide +kernel
theorem dX8_read_63 : decode cX8_read 63 = .ok (.getfield 44, 3) := by decide +kernel
theorem dX8_read_66 : decode cX8_read 66 = .ok (.iload_n 1, 1) := by decide +kernel
theorem dX8_read_67 : decode cX8_read 67 = .ok (.iaload, 1) := by decide +kernel
theorem dX8_read_68 : decode cX8_read 68 = .ok (.invokestatic 179, 3) := by decide +kernel
theorem dX8_read_71 : decode cX8_read 71 = .ok (.iload 4, 2) := by decide +kernel
theorem dX8_read_73 : decode cX8_read 73 = .ok (.isub, 1) := by decide +kernel
theorem dX8_read_74 : decode cX8_read 74 = .ok (.invokestatic 146, 3) := by decide +kernel
theorem dX8_read_77 : decode cX8_read 77 = .ok (.ifCond .ne 10, 3) := by decide +kernel
theorem dX8_read_80 : decode cX8_read 80 = .ok (.aload_n 0, 1) := by decide +kernel
theorem dX8_read_81 : decode cX8_read 81 = .ok (.iconst 1, 1) := by decide +kernel
theorem dX8_read_82 : decode cX8_read 82 = .ok (.putfield 143, 3) := by decide +kernel
theorem dX8_read_85 : decode cX8_read 85 = .ok (.lconst 0, 1) := by decide +kernel
theorem dX8_read_86 : decode cX8_read 86 = .ok (.lreturn, 1) := by decide +kernel
theorem dX8_read_87 : decode cX8_read 87 = .ok (.lconst 0, 1) := by decide +kernel
theorem dX8_read_88 : decode cX8_read 88 = .ok (.lstore 5, 2) := by decide +kernel
theorem dX8_read_90 : decode cX8_read 90 = .ok (.iconst 0, 1) := by decide +kernel
theorem dX8_read_91 : decode cX8_read 91 = .ok (.istore 7, 2) := by decide +kernel
theorem dX8_read_93 : decode cX8_read 93 = .ok (.iload 7, 2) := by decide +kernel
theorem dX8_read_95 : decode cX8_read 95 = .ok (.iload 4, 2) := by decide +kernel
theorem dX8_read_97 : decode cX8_read 97 = .ok (.if_icmp .ge 32, 3) := by decide +kernel
theorem dX8_read_100 : decode cX8_read 100 = .ok (.lload 5, 2) := by decide +kernel
theorem dX8_read_102 : decode cX8_read 102 = .ok (.bipush 8, 2) := by decide +kernel
theorem dX8_read_104 : decode cX8_read 104 = .ok (.lshl, 1) := by decide +kernel
theorem dX8_read_105 : decode cX8_read 105 = .ok (.aload_n 0, 1) := by decide +kernel
theorem dX8_read_106 : decode cX8_read 106 = .ok (.getfield 50, 3) := by decide +kernel
theorem dX8_read_109 : decode cX8_read 109 = .ok (.bipush 32, 2) := by decide +kernel
theorem dX8_read_111 : decode cX8_read 111 = .ok (.iload_n 1, 1) := by decide +kernel
theorem dX8_read_112 : decode cX8_read 112 = .ok (.imul, 1) := by decide +kernel
theorem dX8_read_113 : decode cX8_read 113 = .ok (.iload_n 3, 1) := by decide +kernel
theorem dX8_read_114 : decode cX8_read 114 = .ok (.iadd, 1) := by decide +kernel
theorem dX8_read_115 : decode cX8_read 115 = .ok (.iload 7, 2) := by decide +kernel
theorem dX8_read_117 : decode cX8_read 117 = .ok (.iadd, 1) := by decide +kernel
theorem dX8_read_118 : decode cX8_read 118 = .ok (.iaload, 1) := by decide +kernel
theorem dX8_read_119 : decode cX8_read 119 = .ok (.i2l, 1) := by decide +kernel
theorem dX8_read_120 : decode cX8_read 120 = .ok (.lor, 1) := by decide +kernel
theorem dX8_read_121 : decode cX8_read 121 = .ok (.lstore 5, 2) := by decide +kernel
theorem dX8_read_123 : decode cX8_read 123 = .ok (.iinc 7 1, 3) := by decide +kernel
theorem dX8_read_126 : decode cX8_read 126 = .ok (.goto (-33), 3) := by decide +kernel
theorem dX8_read_129 : decode cX8_read 129 = .ok (.iload_n 2, 1) := by decide +kernel
theorem dX8_read_130 : decode cX8_read 130 = .ok (.ifCond .ne 11, 3) := by decide +kernel
theorem dX8_read_133 : decode cX8_read 133 = .ok (.lload 5, 2) := by decide +kernel
theorem dX8_read_135 : decode cX8_read 135 = .ok (.l2i, 1) := by decide +kernel
theorem dX8_read_136 : decode cX8_read 136 = .ok (.i2b, 1) := by decide +kernel
theorem dX8_read_137 : decode cX8_read 137 = .ok (.i2l, 1) := by decide +kernel
theorem dX8_read_138 : decode cX8_read 138 = .ok (.goto 30, 3) := by decide +kernel
theorem dX8_read_141 : decode cX8_read 141 = .ok (.iload_n 2, 1) := by decide +kernel
theorem dX8_read_142 : decode cX8_read 142 = .ok (.iconst 1, 1) := by decide +kernel
theorem dX8_read_143 : decode cX8_read 143 = .ok (.if_icmp .ne 11, 3) := by decide +kernel
theorem dX8_read_146 : decode cX8_read 146 = .ok (.lload 5, 2) := by decide +kernel
theorem dX8_read_148 : decode cX8_read 148 = .ok (.l2i, 1) := by decide +kernel
theorem dX8_read_149 : decode cX8_read 149 = .ok (.i2s, 1) := by decide +kernel
theorem dX8_read_150 : decode cX8_read 150 = .ok (.i2l, 1) := by decide +kernel
theorem dX8_read_151 : decode cX8_read 151 = .ok (.goto 17, 3) := by decide +kernel
theorem dX8_read_154 : decode cX8_read 154 = .ok (.iload_n 2, 1) := by decide +kernel
theorem dX8_read_155 : decode cX8_read 155 = .ok (.iconst 3, 1) := by decide +kernel
theorem dX8_read_156 : decode cX8_read 156 = .ok (.if_icmp .ne 10, 3) := by decide +kernel
theorem dX8_read_159 : decode cX8_read 159 = .ok (.lload 5, 2) := by decide +kernel
theorem dX8_read_161 : decode cX8_read 161 = .ok (.l2i, 1) := by decide +kernel
theorem dX8_read_162 : decode cX8_read 162 = .ok (.i2l, 1) := by decide +kernel
theorem dX8_read_163 : decode cX8_read 163 = .ok (.goto 5, 3) := by decide +kernel
theorem dX8_read_166 : decode cX8_read 166 = .ok (.lload 5, 2) := by decide +kernel
theorem dX8_read_168 : decode cX8_read 168 = .ok (.lreturn, 1) := by decide +kernel
theorem dX8_plan_0 : decode cX8_plan 0 = .ok (.aload_n 0, 1) := by decide +kernel
theorem dX8_plan_1 : decode cX8_plan 1 = .ok (.iconst 0, 1) := by decide +kernel
theorem dX8_plan_2 : decode cX8_plan 2 = .ok (.putfield 143, 3) := by decide +kernel
theorem dX8_plan_5 : decode cX8_plan 5 = .ok (.aload_n 0, 1) := by decide +kernel
theorem dX8_plan_6 : decode cX8_plan 6 = .ok (.iload_n 1, 1) := by decide +kernel
theorem dX8_plan_7 : decode cX8_plan 7 = .ok (.invokevirtual 175, 3) := by decide +kernel
theorem dX8_plan_10 : decode cX8_plan 10 = .ok (.ifCond .ne 7, 3) := by decide +kernel
theorem dX8_plan_13 : decode cX8_plan 13 = .ok (.ldc2_w 182, 3) := by decide +kernel
theorem dX8_plan_16 : decode cX8_plan 16 = .ok (.lreturn, 1) := by decide +kernel
theorem dX8_plan_17 : decode cX8_plan 17 = .ok (.aload_n 0, 1) := by decide +kernel
theorem dX8_plan_18 : decode cX8_plan 18 = .ok (.iload_n 2, 1) := by decide +kernel
theorem dX8_plan_19 : decode cX8_plan 19 = .ok (.iconst 0, 1) := by decide +kernel
theorem dX8_plan_20 : decode cX8_plan 20 = .ok (.bipush 63, 2) := by decide +kernel
theorem dX8_plan_22 : decode cX8_plan 22 = .ok (.invokestatic 146, 3) := by decide +kernel
theorem dX8_plan_25 : decode cX8_plan 25 = .ok (.ifCond .eq 7, 3) := by decide +kernel
theorem dX8_plan_28 : decode cX8_plan 28 = .ok (.iconst 0, 1) := by decide +kernel
theorem dX8_plan_29 : decode cX8_plan 29 = .ok (.goto 4, 3) := by decide +kernel
theorem dX8_plan_32 : decode cX8_plan 32 = .ok (.iconst 1, 1) := by decide +kernel
theorem dX8_plan_33 : decode cX8_plan 33 = .ok (.putfield 143, 3) := by decide +kernel
theorem dX8_plan_36 : decode cX8_plan 36 = .ok (.aload_n 0, 1) := by decide +kernel
theorem dX8_plan_37 : decode cX8_plan 37 = .ok (.getfield 143, 3) := by decide +kernel
theorem dX8_plan_40 : decode cX8_plan 40 = .ok (.iconst 1, 1) := by decide +kernel
theorem dX8_plan_41 : decode cX8_plan 41 = .ok (.if_icmp .ne 7, 3) := by decide +kernel
theorem dX8_plan_44 : decode cX8_plan 44 = .ok (.lconst 0, 1) := by decide +kernel
theorem dX8_plan_45 : decode cX8_plan 45 = .ok (.goto 15, 3) := by decide +kernel
theorem dX8_plan_48 : decode cX8_plan 48 = .ok (.aload_n 0, 1) := by decide +kernel
theorem dX8_plan_49 : decode cX8_plan 49 = .ok (.getfield 53, 3) := by decide +kernel
theorem dX8_plan_52 : decode cX8_plan 52 = .ok (.bipush 64, 2) := by decide +kernel
theorem dX8_plan_54 : decode cX8_plan 54 = .ok (.iload_n 1, 1) := by decide +kernel
theorem dX8_plan_55 : decode cX8_plan 55 = .ok (.imul, 1) := by decide +kernel
theorem dX8_plan_56 : decode cX8_plan 56 = .ok (.iload_n 2, 1) := by decide +kernel
theorem dX8_plan_57 : decode cX8_plan 57 = .ok (.iadd, 1) := by decide +kernel
theorem dX8_plan_58 : decode cX8_plan 58 = .ok (.iaload, 1) := by decide +kernel
theorem dX8_plan_59 : decode cX8_plan 59 = .ok (.i2l, 1) := by decide +kernel
theorem dX8_plan_60 : decode cX8_plan 60 = .ok (.lreturn, 1) := by decide +kernel
theorem dX8_same_0 : decode cX8_same 0 = .ok (.aload_n 0, 1) := by decide +kernel
theorem dX8_same_1 : decode cX8_same 1 = .ok (.iconst 0, 1) := by decide +kernel
theorem dX8_same_2 : decode cX8_same 2 = .ok (.putfield 143, 3) := by decide +kernel
theorem dX8_same_5 : decode cX8_same 5 = .ok (.aload_n 0, 1) := by decide +kernel
theorem dX8_same_6 : decode cX8_same 6 = .ok (.iload_n 1, 1) := by decide +kernel
theorem dX8_same_7 : decode cX8_same 7 = .ok (.invokevirtual 175, 3) := by decide +kernel
theorem dX8_same_10 : decode cX8_same 10 = .ok (.ifCond .eq 11, 3) := by decide +kernel
theorem dX8_same_13 : decode cX8_same 13 = .ok (.aload_n 0, 1) := by decide +kernel
theorem dX8_same_14 : decode cX8_same 14 = .ok (.iload_n 2, 1) := by decide +kernel
theorem dX8_same_15 : decode cX8_same 15 = .ok (.invokevirtual 175, 3) := by decide +kernel
theorem dX8_same_18 : decode cX8_same 18 = .ok (.ifCond .ne 6, 3) := by decide +kernel
theorem dX8_same_21 : decode cX8_same 21 = .ok (.bipush (-101), 2) := by decide +kernel
theorem dX8_same_23 : decode cX8_same 23 = .ok (.ireturn, 1) := by decide +kernel
theorem dX8_same_24 : decode cX8_same 24 = .ok (.aload_n 0, 1) := by decide +kernel
theorem dX8_same_25 : decode cX8_same 25 = .ok (.getfield 44, 3) := by decide +kernel
theorem dX8_same_28 : decode cX8_same 28 = .ok (.iload_n 1, 1) := by decide +kernel
theorem dX8_same_29 : decode cX8_same 29 = .ok (.iaload, 1) := by decide +kernel
theorem dX8_same_30 : decode cX8_same 30 = .ok (.invokestatic 179, 3) := by decide +kernel
theorem dX8_same_33 : decode cX8_same 33 = .ok (.aload_n 0, 1) := by decide +kernel
theorem dX8_same_34 : decode cX8_same 34 = .ok (.getfield 44, 3) := by decide +kernel
theorem dX8_same_37 : decode cX8_same 37 = .ok (.iload_n 2, 1) := by decide +kernel
theorem dX8_same_38 : decode cX8_same 38 = .ok (.iaload, 1) := by decide +kernel
theorem dX8_same_39 : decode cX8_same 39 = .ok (.invokestatic 179, 3) := by decide +kernel
theorem dX8_same_42 : decode cX8_same 42 = .ok (.if_icmp .ne 7, 3) := by decide +kernel
theorem dX8_same_45 : decode cX8_same 45 = .ok (.iconst 1, 1) := by decide +kernel
theorem dX8_same_46 : decode cX8_same 46 = .ok (.goto 4, 3) := by decide +kernel
theorem dX8_same_49 : decode cX8_same 49 = .ok (.iconst 0, 1) := by decide +kernel
theorem dX8_same_50 : decode cX8_same 50 = .ok (.istore_n 3, 1) := by decide +kernel
theorem dX8_same_51 : decode cX8_same 51 = .ok (.iconst 0, 1) := by decide +kernel
theorem dX8_same_52 : decode cX8_same 52 = .ok (.istore 4, 2) := by decide +kernel
theorem dX8_same_54 : decode cX8_same 54 = .ok (.iload 4, 2) := by decide +kernel
theorem dX8_same_56 : decode cX8_same 56 = .ok (.aload_n 0, 1) := by decide +kernel
theorem dX8_same_57 : decode cX8_same 57 = .ok (.getfield 44, 3) := by decide +kernel
theorem dX8_same_60 : decode cX8_same 60 = .ok (.iload_n 1, 1) := by decide +kernel
theorem dX8_same_61 : decode cX8_same 61 = .ok (.iaload, 1) := by decide +kernel
theorem dX8_same_62 : decode cX8_same 62 = .ok (.invokestatic 179, 3) := by decide +kernel
theorem dX8_same_65 : decode cX8_same 65 = .ok (.if_icmp .ge 46, 3) := by decide +kernel
theorem dX8_same_68 : decode cX8_same 68 = .ok (.iload_n 3, 1) := by decide +kernel
theorem dX8_same_69 : decode cX8_same 69 = .ok (.ifCond .eq 42, 3) := by decide +kernel
theorem dX8_same_72 : decode cX8_same 72 = .ok (.aload_n 0, 1) := by decide +kernel
theorem dX8_same_73 : decode cX8_same 73 = .ok (.getfield 50, 3) := by decide +kernel
theorem dX8_same_76 : decode cX8_same 76 = .ok (.bipush 32, 2) := by decide +kernel
theorem dX8_same_78 : decode cX8_same 78 = .ok (.iload_n 1, 1) := by decide +kernel
theorem dX8_same_79 : decode cX8_same 79 = .ok (.imul, 1) := by decide +kernel
theorem dX8_same_80 : decode cX8_same 80 = .ok (.iload 4, 2) := by decide +kernel
theorem dX8_same_82 : decode cX8_same 82 = .ok (.iadd, 1) := by decide +kernel
theorem dX8_same_83 : decode cX8_same 83 = .ok (.iaload, 1) := by decide +kernel
theorem dX8_same_84 : decode cX8_same 84 = .ok (.aload_n 0, 1) := by decide +kernel
theorem dX8_same_85 : decode cX8_same 85 = .ok (.getfield 50, 3) := by decide +kernel
theorem dX8_same_88 : decode cX8_same 88 = .ok (.bipush 32, 2) := by decide +kernel
theorem dX8_same_90 : decode cX8_same 90 = .ok (.iload_n 2, 1) := by decide +kernel
theorem dX8_same_91 : decode cX8_same 91 = .ok (.imul, 1) := by decide +kernel
theorem dX8_same_92 : decode cX8_same 92 = .ok (.iload 4, 2) := by decide +kernel
theorem dX8_same_94 : decode cX8_same 94 = .ok (.iadd, 1) := by decide +kernel
theorem dX8_same_95 : decode cX8_same 95 = .ok (.iaload, 1) := by decide +kernel
theorem dX8_same_96 : decode cX8_same 96 = .ok (.if_icmp .ne 7, 3) := by decide +kernel
theorem dX8_same_99 : decode cX8_same 99 = .ok (.iconst 1, 1) := by decide +kernel
theorem dX8_same_100 : decode cX8_same 100 = .ok (.goto 4, 3) := by decide +kernel
theorem dX8_same_103 : decode cX8_same 103 = .ok (.iconst 0, 1) := by decide +kernel
theorem dX8_same_104 : decode cX8_same 104 = .ok (.istore_n 3, 1) := by decide +kernel
theorem dX8_same_105 : decode cX8_same 105 = .ok (.iinc 4 1, 3) := by decide +kernel
theorem dX8_same_108 : decode cX8_same 108 = .ok (.goto (-54), 3) := by decide +kernel
theorem dX8_same_111 : decode cX8_same 111 = .ok (.iload_n 3, 1) := by decide +kernel
theorem dX8_same_112 : decode cX8_same 112 = .ok (.ifCond .eq 7, 3) := by decide +kernel
theorem dX8_same_115 : decode cX8_same 115 = .ok (.iconst 1, 1) := by decide +kernel
theorem dX8_same_116 : decode cX8_same 116 = .ok (.goto 4, 3) := by decide +kernel
theorem dX8_same_119 : decode cX8_same 119 = .ok (.iconst 0, 1) := by decide +kernel
theorem dX8_same_120 : decode cX8_same 120 = .ok (.ireturn, 1) := by decide +kernel
