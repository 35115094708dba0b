set_option maxRecDepth 100000 in
theorem dAL_law_0 : decode cL_law 0 = .ok (.new 8, 3) ∧ decode cL_law 3 = .ok (.dup, 1) ∧ decode cL_law 4 = .ok (.invokespecial 15, 3) ∧ decode cL_law 7 = .ok (.astore_n 1, 1) ∧ decode cL_law 8 = .ok (.new 16, 3) ∧ decode cL_law 11 = .ok (.dup, 1) ∧ decode cL_law 12 = .ok (.invokespecial 18, 3) ∧ decode cL_law 15 = .ok (.astore_n 2, 1) := by decide +kernel
theorem dL_law_0 : decode cL_law 0 = .ok (.new 8, 3) := dAL_law_0.1
theorem dL_law_3 : decode cL_law 3 = .ok (.dup, 1) := dAL_law_0.2.1
theorem dL_law_4 : decode cL_law 4 = .ok (.invokespecial 15, 3) := dAL_law_0.2.2.1
theorem dL_law_7 : decode cL_law 7 = .ok (.astore_n 1, 1) := dAL_law_0.2.2.2.1
theorem dL_law_8 : decode cL_law 8 = .ok (.new 16, 3) := dAL_law_0.2.2.2.2.1
theorem dL_law_11 : decode cL_law 11 = .ok (.dup, 1) := dAL_law_0.2.2.2.2.2.1
theorem dL_law_12 : decode cL_law 12 = .ok (.invokespecial 18, 3) := dAL_law_0.2.2.2.2.2.2.1
theorem dL_law_15 : decode cL_law 15 = .ok (.astore_n 2, 1) := dAL_law_0.2.2.2.2.2.2.2
set_option maxRecDepth 100000 in
theorem dAL_law_1 : decode cL_law 16 = .ok (.iconst 1, 1) ∧ decode cL_law 17 = .ok (.newarray .long, 2) ∧ decode cL_law 19 = .ok (.astore_n 3, 1) ∧ decode cL_law 20 = .ok (.iconst 0, 1) ∧ decode cL_law 21 = .ok (.istore 4, 2) ∧ decode cL_law 23 = .ok (.iload 4, 2) ∧ decode cL_law 25 = .ok (.aload_n 0, 1) ∧ decode cL_law 26 = .ok (.arraylength, 1) := by decide +kernel
theorem dL_law_16 : decode cL_law 16 = .ok (.iconst 1, 1) := dAL_law_1.1
theorem dL_law_17 : decode cL_law 17 = .ok (.newarray .long, 2) := dAL_law_1.2.1
theorem dL_law_19 : decode cL_law 19 = .ok (.astore_n 3, 1) := dAL_law_1.2.2.1
theorem dL_law_20 : decode cL_law 20 = .ok (.iconst 0, 1) := dAL_law_1.2.2.2.1
theorem dL_law_21 : decode cL_law 21 = .ok (.istore 4, 2) := dAL_law_1.2.2.2.2.1
theorem dL_law_23 : decode cL_law 23 = .ok (.iload 4, 2) := dAL_law_1.2.2.2.2.2.1
theorem dL_law_25 : decode cL_law 25 = .ok (.aload_n 0, 1) := dAL_law_1.2.2.2.2.2.2.1
theorem dL_law_26 : decode cL_law 26 = .ok (.arraylength, 1) := dAL_law_1.2.2.2.2.2.2.2
set_option maxRecDepth 100000 in
theorem dAL_law_2 : decode cL_law 27 = .ok (.bipush 6, 2) ∧ decode cL_law 29 = .ok (.isub, 1) ∧ decode cL_law 30 = .ok (.if_icmp .gt 1803, 3) ∧ decode cL_law 33 = .ok (.aload_n 0, 1) ∧ decode cL_law 34 = .ok (.iload 4, 2) ∧ decode cL_law 36 = .ok (.iaload, 1) ∧ decode cL_law 37 = .ok (.bipush 63, 2) ∧ decode cL_law 39 = .ok (.iand, 1) := by decide +kernel
theorem dL_law_27 : decode cL_law 27 = .ok (.bipush 6, 2) := dAL_law_2.1
theorem dL_law_29 : decode cL_law 29 = .ok (.isub, 1) := dAL_law_2.2.1
theorem dL_law_30 : decode cL_law 30 = .ok (.if_icmp .gt 1803, 3) := dAL_law_2.2.2.1
theorem dL_law_33 : decode cL_law 33 = .ok (.aload_n 0, 1) := dAL_law_2.2.2.2.1
theorem dL_law_34 : decode cL_law 34 = .ok (.iload 4, 2) := dAL_law_2.2.2.2.2.1
theorem dL_law_36 : decode cL_law 36 = .ok (.iaload, 1) := dAL_law_2.2.2.2.2.2.1
theorem dL_law_37 : decode cL_law 37 = .ok (.bipush 63, 2) := dAL_law_2.2.2.2.2.2.2.1
theorem dL_law_39 : decode cL_law 39 = .ok (.iand, 1) := dAL_law_2.2.2.2.2.2.2.2
set_option maxRecDepth 100000 in
theorem dAL_law_3 : decode cL_law 40 = .ok (.tableswitch 1787 0 55 #[240, 313, 338, 351, 364, 401, 438, 475, 488, 541, 566, 579, 604, 617, 630, 655, 668, 681, 706, 743, 808, 833, 858, 871, 884, 909, 934, 947, 972, 997, 1050, 1075, 1128, 1141, 1166, 1179, 1192, 1217, 1230, 1243, 1256, 1269, 1322, 1363, 1472, 1497, 1522, 1559, 1596, 1633, 1670, 1683, 1696, 1721, 1749, 1774], 240) ∧ decode cL_law 280 = .ok (.aload_n 1, 1) ∧ decode cL_law 281 = .ok (.aload_n 0, 1) ∧ decode cL_law 282 = .ok (.iload 4, 2) ∧ decode cL_law 284 = .ok (.iconst 1, 1) ∧ decode cL_law 285 = .ok (.iadd, 1) ∧ decode cL_law 286 = .ok (.iaload, 1) ∧ decode cL_law 287 = .ok (.aload_n 0, 1) := by decide +kernel
theorem dL_law_40 : decode cL_law 40 = .ok (.tableswitch 1787 0 55 #[240, 313, 338, 351, 364, 401, 438, 475, 488, 541, 566, 579, 604, 617, 630, 655, 668, 681, 706, 743, 808, 833, 858, 871, 884, 909, 934, 947, 972, 997, 1050, 1075, 1128, 1141, 1166, 1179, 1192, 1217, 1230, 1243, 1256, 1269, 1322, 1363, 1472, 1497, 1522, 1559, 1596, 1633, 1670, 1683, 1696, 1721, 1749, 1774], 240) := dAL_law_3.1
theorem dL_law_280 : decode cL_law 280 = .ok (.aload_n 1, 1) := dAL_law_3.2.1
theorem dL_law_281 : decode cL_law 281 = .ok (.aload_n 0, 1) := dAL_law_3.2.2.1
theorem dL_law_282 : decode cL_law 282 = .ok (.iload 4, 2) := dAL_law_3.2.2.2.1
theorem dL_law_284 : decode cL_law 284 = .ok (.iconst 1, 1) := dAL_law_3.2.2.2.2.1
theorem dL_law_285 : decode cL_law 285 = .ok (.iadd, 1) := dAL_law_3.2.2.2.2.2.1
theorem dL_law_286 : decode cL_law 286 = .ok (.iaload, 1) := dAL_law_3.2.2.2.2.2.2.1
theorem dL_law_287 : decode cL_law 287 = .ok (.aload_n 0, 1) := dAL_law_3.2.2.2.2.2.2.2
set_option maxRecDepth 100000 in
theorem dAL_law_4 : decode cL_law 288 = .ok (.iload 4, 2) ∧ decode cL_law 290 = .ok (.iconst 2, 1) ∧ decode cL_law 291 = .ok (.iadd, 1) ∧ decode cL_law 292 = .ok (.iaload, 1) ∧ decode cL_law 293 = .ok (.aload_n 0, 1) ∧ decode cL_law 294 = .ok (.iload 4, 2) ∧ decode cL_law 296 = .ok (.iconst 3, 1) ∧ decode cL_law 297 = .ok (.iadd, 1) := by decide +kernel
theorem dL_law_288 : decode cL_law 288 = .ok (.iload 4, 2) := dAL_law_4.1
theorem dL_law_290 : decode cL_law 290 = .ok (.iconst 2, 1) := dAL_law_4.2.1
theorem dL_law_291 : decode cL_law 291 = .ok (.iadd, 1) := dAL_law_4.2.2.1
theorem dL_law_292 : decode cL_law 292 = .ok (.iaload, 1) := dAL_law_4.2.2.2.1
theorem dL_law_293 : decode cL_law 293 = .ok (.aload_n 0, 1) := dAL_law_4.2.2.2.2.1
theorem dL_law_294 : decode cL_law 294 = .ok (.iload 4, 2) := dAL_law_4.2.2.2.2.2.1
theorem dL_law_296 : decode cL_law 296 = .ok (.iconst 3, 1) := dAL_law_4.2.2.2.2.2.2.1
theorem dL_law_297 : decode cL_law 297 = .ok (.iadd, 1) := dAL_law_4.2.2.2.2.2.2.2
set_option maxRecDepth 100000 in
theorem dAL_law_5 : decode cL_law 298 = .ok (.iaload, 1) ∧ decode cL_law 299 = .ok (.aload_n 0, 1) ∧ decode cL_law 300 = .ok (.iload 4, 2) ∧ decode cL_law 302 = .ok (.iconst 4, 1) ∧ decode cL_law 303 = .ok (.iadd, 1) ∧ decode cL_law 304 = .ok (.iaload, 1) ∧ decode cL_law 305 = .ok (.aload_n 0, 1) ∧ decode cL_law 306 = .ok (.iload 4, 2) := by decide +kernel
theorem dL_law_298 : decode cL_law 298 = .ok (.iaload, 1) := dAL_law_5.1
theorem dL_law_299 : decode cL_law 299 = .ok (.aload_n 0, 1) := dAL_law_5.2.1
theorem dL_law_300 : decode cL_law 300 = .ok (.iload 4, 2) := dAL_law_5.2.2.1
theorem dL_law_302 : decode cL_law 302 = .ok (.iconst 4, 1) := dAL_law_5.2.2.2.1
theorem dL_law_303 : decode cL_law 303 = .ok (.iadd, 1) := dAL_law_5.2.2.2.2.1
theorem dL_law_304 : decode cL_law 304 = .ok (.iaload, 1) := dAL_law_5.2.2.2.2.2.1
theorem dL_law_305 : decode cL_law 305 = .ok (.aload_n 0, 1) := dAL_law_5.2.2.2.2.2.2.1
theorem dL_law_306 : decode cL_law 306 = .ok (.iload 4, 2) := dAL_law_5.2.2.2.2.2.2.2
set_option maxRecDepth 100000 in
theorem dAL_law_6 : decode cL_law 308 = .ok (.iconst 5, 1) ∧ decode cL_law 309 = .ok (.iadd, 1) ∧ decode cL_law 310 = .ok (.iaload, 1) ∧ decode cL_law 311 = .ok (.invokevirtual 19, 3) ∧ decode cL_law 314 = .ok (.pop, 1) ∧ decode cL_law 315 = .ok (.aload_n 2, 1) ∧ decode cL_law 316 = .ok (.aload_n 0, 1) ∧ decode cL_law 317 = .ok (.iload 4, 2) := by decide +kernel
theorem dL_law_308 : decode cL_law 308 = .ok (.iconst 5, 1) := dAL_law_6.1
theorem dL_law_309 : decode cL_law 309 = .ok (.iadd, 1) := dAL_law_6.2.1
theorem dL_law_310 : decode cL_law 310 = .ok (.iaload, 1) := dAL_law_6.2.2.1
theorem dL_law_311 : decode cL_law 311 = .ok (.invokevirtual 19, 3) := dAL_law_6.2.2.2.1
theorem dL_law_314 : decode cL_law 314 = .ok (.pop, 1) := dAL_law_6.2.2.2.2.1
theorem dL_law_315 : decode cL_law 315 = .ok (.aload_n 2, 1) := dAL_law_6.2.2.2.2.2.1
theorem dL_law_316 : decode cL_law 316 = .ok (.aload_n 0, 1) := dAL_law_6.2.2.2.2.2.2.1
theorem dL_law_317 : decode cL_law 317 = .ok (.iload 4, 2) := dAL_law_6.2.2.2.2.2.2.2
set_option maxRecDepth 100000 in
theorem dAL_law_7 : decode cL_law 319 = .ok (.iconst 1, 1) ∧ decode cL_law 320 = .ok (.iadd, 1) ∧ decode cL_law 321 = .ok (.iaload, 1) ∧ decode cL_law 322 = .ok (.aload_n 0, 1) ∧ decode cL_law 323 = .ok (.iload 4, 2) ∧ decode cL_law 325 = .ok (.iconst 2, 1) ∧ decode cL_law 326 = .ok (.iadd, 1) ∧ decode cL_law 327 = .ok (.iaload, 1) := by decide +kernel
theorem dL_law_319 : decode cL_law 319 = .ok (.iconst 1, 1) := dAL_law_7.1
theorem dL_law_320 : decode cL_law 320 = .ok (.iadd, 1) := dAL_law_7.2.1
theorem dL_law_321 : decode cL_law 321 = .ok (.iaload, 1) := dAL_law_7.2.2.1
theorem dL_law_322 : decode cL_law 322 = .ok (.aload_n 0, 1) := dAL_law_7.2.2.2.1
theorem dL_law_323 : decode cL_law 323 = .ok (.iload 4, 2) := dAL_law_7.2.2.2.2.1
theorem dL_law_325 : decode cL_law 325 = .ok (.iconst 2, 1) := dAL_law_7.2.2.2.2.2.1
theorem dL_law_326 : decode cL_law 326 = .ok (.iadd, 1) := dAL_law_7.2.2.2.2.2.2.1
theorem dL_law_327 : decode cL_law 327 = .ok (.iaload, 1) := dAL_law_7.2.2.2.2.2.2.2
set_option maxRecDepth 100000 in
theorem dAL_law_8 : decode cL_law 328 = .ok (.aload_n 0, 1) ∧ decode cL_law 329 = .ok (.iload 4, 2) ∧ decode cL_law 331 = .ok (.iconst 3, 1) ∧ decode cL_law 332 = .ok (.iadd, 1) ∧ decode cL_law 333 = .ok (.iaload, 1) ∧ decode cL_law 334 = .ok (.aload_n 0, 1) ∧ decode cL_law 335 = .ok (.iload 4, 2) ∧ decode cL_law 337 = .ok (.iconst 4, 1) := by decide +kernel
theorem dL_law_328 : decode cL_law 328 = .ok (.aload_n 0, 1) := dAL_law_8.1
theorem dL_law_329 : decode cL_law 329 = .ok (.iload 4, 2) := dAL_law_8.2.1
theorem dL_law_331 : decode cL_law 331 = .ok (.iconst 3, 1) := dAL_law_8.2.2.1
theorem dL_law_332 : decode cL_law 332 = .ok (.iadd, 1) := dAL_law_8.2.2.2.1
theorem dL_law_333 : decode cL_law 333 = .ok (.iaload, 1) := dAL_law_8.2.2.2.2.1
theorem dL_law_334 : decode cL_law 334 = .ok (.aload_n 0, 1) := dAL_law_8.2.2.2.2.2.1
theorem dL_law_335 : decode cL_law 335 = .ok (.iload 4, 2) := dAL_law_8.2.2.2.2.2.2.1
theorem dL_law_337 : decode cL_law 337 = .ok (.iconst 4, 1) := dAL_law_8.2.2.2.2.2.2.2
set_option maxRecDepth 100000 in
theorem dAL_law_9 : decode cL_law 338 = .ok (.iadd, 1) ∧ decode cL_law 339 = .ok (.iaload, 1) ∧ decode cL_law 340 = .ok (.aload_n 0, 1) ∧ decode cL_law 341 = .ok (.iload 4, 2) ∧ decode cL_law 343 = .ok (.iconst 5, 1) ∧ decode cL_law 344 = .ok (.iadd, 1) ∧ decode cL_law 345 = .ok (.iaload, 1) ∧ decode cL_law 346 = .ok (.invokevirtual 23, 3) := by decide +kernel
theorem dL_law_338 : decode cL_law 338 = .ok (.iadd, 1) := dAL_law_9.1
theorem dL_law_339 : decode cL_law 339 = .ok (.iaload, 1) := dAL_law_9.2.1
theorem dL_law_340 : decode cL_law 340 = .ok (.aload_n 0, 1) := dAL_law_9.2.2.1
theorem dL_law_341 : decode cL_law 341 = .ok (.iload 4, 2) := dAL_law_9.2.2.2.1
theorem dL_law_343 : decode cL_law 343 = .ok (.iconst 5, 1) := dAL_law_9.2.2.2.2.1
theorem dL_law_344 : decode cL_law 344 = .ok (.iadd, 1) := dAL_law_9.2.2.2.2.2.1
theorem dL_law_345 : decode cL_law 345 = .ok (.iaload, 1) := dAL_law_9.2.2.2.2.2.2.1
theorem dL_law_346 : decode cL_law 346 = .ok (.invokevirtual 23, 3) := dAL_law_9.2.2.2.2.2.2.2
set_option maxRecDepth 100000 in
theorem dAL_law_10 : decode cL_law 349 = .ok (.pop, 1) ∧ decode cL_law 350 = .ok (.goto 1477, 3) ∧ decode cL_law 353 = .ok (.aload_n 1, 1) ∧ decode cL_law 354 = .ok (.aload_n 0, 1) ∧ decode cL_law 355 = .ok (.iload 4, 2) ∧ decode cL_law 357 = .ok (.iconst 1, 1) ∧ decode cL_law 358 = .ok (.iadd, 1) ∧ decode cL_law 359 = .ok (.iaload, 1) := by decide +kernel
theorem dL_law_349 : decode cL_law 349 = .ok (.pop, 1) := dAL_law_10.1
theorem dL_law_350 : decode cL_law 350 = .ok (.goto 1477, 3) := dAL_law_10.2.1
theorem dL_law_353 : decode cL_law 353 = .ok (.aload_n 1, 1) := dAL_law_10.2.2.1
theorem dL_law_354 : decode cL_law 354 = .ok (.aload_n 0, 1) := dAL_law_10.2.2.2.1
theorem dL_law_355 : decode cL_law 355 = .ok (.iload 4, 2) := dAL_law_10.2.2.2.2.1
theorem dL_law_357 : decode cL_law 357 = .ok (.iconst 1, 1) := dAL_law_10.2.2.2.2.2.1
theorem dL_law_358 : decode cL_law 358 = .ok (.iadd, 1) := dAL_law_10.2.2.2.2.2.2.1
theorem dL_law_359 : decode cL_law 359 = .ok (.iaload, 1) := dAL_law_10.2.2.2.2.2.2.2
set_option maxRecDepth 100000 in
theorem dAL_law_11 : decode cL_law 360 = .ok (.invokevirtual 24, 3) ∧ decode cL_law 363 = .ok (.pop, 1) ∧ decode cL_law 364 = .ok (.aload_n 2, 1) ∧ decode cL_law 365 = .ok (.aload_n 0, 1) ∧ decode cL_law 366 = .ok (.iload 4, 2) ∧ decode cL_law 368 = .ok (.iconst 1, 1) ∧ decode cL_law 369 = .ok (.iadd, 1) ∧ decode cL_law 370 = .ok (.iaload, 1) := by decide +kernel
theorem dL_law_360 : decode cL_law 360 = .ok (.invokevirtual 24, 3) := dAL_law_11.1
theorem dL_law_363 : decode cL_law 363 = .ok (.pop, 1) := dAL_law_11.2.1
theorem dL_law_364 : decode cL_law 364 = .ok (.aload_n 2, 1) := dAL_law_11.2.2.1
theorem dL_law_365 : decode cL_law 365 = .ok (.aload_n 0, 1) := dAL_law_11.2.2.2.1
theorem dL_law_366 : decode cL_law 366 = .ok (.iload 4, 2) := dAL_law_11.2.2.2.2.1
theorem dL_law_368 : decode cL_law 368 = .ok (.iconst 1, 1) := dAL_law_11.2.2.2.2.2.1
theorem dL_law_369 : decode cL_law 369 = .ok (.iadd, 1) := dAL_law_11.2.2.2.2.2.2.1
theorem dL_law_370 : decode cL_law 370 = .ok (.iaload, 1) := dAL_law_11.2.2.2.2.2.2.2
set_option maxRecDepth 100000 in
theorem dAL_law_12 : decode cL_law 371 = .ok (.invokevirtual 27, 3) ∧ decode cL_law 374 = .ok (.pop, 1) ∧ decode cL_law 375 = .ok (.goto 1452, 3) ∧ decode cL_law 378 = .ok (.aload_n 1, 1) ∧ decode cL_law 379 = .ok (.invokevirtual 28, 3) ∧ decode cL_law 382 = .ok (.pop, 1) ∧ decode cL_law 383 = .ok (.aload_n 2, 1) ∧ decode cL_law 384 = .ok (.invokevirtual 32, 3) := by decide +kernel
theorem dL_law_371 : decode cL_law 371 = .ok (.invokevirtual 27, 3) := dAL_law_12.1
theorem dL_law_374 : decode cL_law 374 = .ok (.pop, 1) := dAL_law_12.2.1
theorem dL_law_375 : decode cL_law 375 = .ok (.goto 1452, 3) := dAL_law_12.2.2.1
theorem dL_law_378 : decode cL_law 378 = .ok (.aload_n 1, 1) := dAL_law_12.2.2.2.1
theorem dL_law_379 : decode cL_law 379 = .ok (.invokevirtual 28, 3) := dAL_law_12.2.2.2.2.1
theorem dL_law_382 : decode cL_law 382 = .ok (.pop, 1) := dAL_law_12.2.2.2.2.2.1
theorem dL_law_383 : decode cL_law 383 = .ok (.aload_n 2, 1) := dAL_law_12.2.2.2.2.2.2.1
theorem dL_law_384 : decode cL_law 384 = .ok (.invokevirtual 32, 3) := dAL_law_12.2.2.2.2.2.2.2
set_option maxRecDepth 100000 in
theorem dAL_law_13 : decode cL_law 387 = .ok (.pop, 1) ∧ decode cL_law 388 = .ok (.goto 1439, 3) ∧ decode cL_law 391 = .ok (.aload_n 1, 1) ∧ decode cL_law 392 = .ok (.invokevirtual 33, 3) ∧ decode cL_law 395 = .ok (.pop, 1) ∧ decode cL_law 396 = .ok (.aload_n 2, 1) ∧ decode cL_law 397 = .ok (.invokevirtual 36, 3) ∧ decode cL_law 400 = .ok (.pop, 1) := by decide +kernel
theorem dL_law_387 : decode cL_law 387 = .ok (.pop, 1) := dAL_law_13.1
theorem dL_law_388 : decode cL_law 388 = .ok (.goto 1439, 3) := dAL_law_13.2.1
theorem dL_law_391 : decode cL_law 391 = .ok (.aload_n 1, 1) := dAL_law_13.2.2.1
theorem dL_law_392 : decode cL_law 392 = .ok (.invokevirtual 33, 3) := dAL_law_13.2.2.2.1
theorem dL_law_395 : decode cL_law 395 = .ok (.pop, 1) := dAL_law_13.2.2.2.2.1
theorem dL_law_396 : decode cL_law 396 = .ok (.aload_n 2, 1) := dAL_law_13.2.2.2.2.2.1
theorem dL_law_397 : decode cL_law 397 = .ok (.invokevirtual 36, 3) := dAL_law_13.2.2.2.2.2.2.1
theorem dL_law_400 : decode cL_law 400 = .ok (.pop, 1) := dAL_law_13.2.2.2.2.2.2.2
set_option maxRecDepth 100000 in
theorem dAL_law_14 : decode cL_law 401 = .ok (.goto 1426, 3) ∧ decode cL_law 404 = .ok (.aload_n 1, 1) ∧ decode cL_law 405 = .ok (.aload_n 0, 1) ∧ decode cL_law 406 = .ok (.iload 4, 2) ∧ decode cL_law 408 = .ok (.iconst 1, 1) ∧ decode cL_law 409 = .ok (.iadd, 1) ∧ decode cL_law 410 = .ok (.iaload, 1) ∧ decode cL_law 411 = .ok (.aload_n 0, 1) := by decide +kernel
theorem dL_law_401 : decode cL_law 401 = .ok (.goto 1426, 3) := dAL_law_14.1
theorem dL_law_404 : decode cL_law 404 = .ok (.aload_n 1, 1) := dAL_law_14.2.1
theorem dL_law_405 : decode cL_law 405 = .ok (.aload_n 0, 1) := dAL_law_14.2.2.1
theorem dL_law_406 : decode cL_law 406 = .ok (.iload 4, 2) := dAL_law_14.2.2.2.1
theorem dL_law_408 : decode cL_law 408 = .ok (.iconst 1, 1) := dAL_law_14.2.2.2.2.1
theorem dL_law_409 : decode cL_law 409 = .ok (.iadd, 1) := dAL_law_14.2.2.2.2.2.1
theorem dL_law_410 : decode cL_law 410 = .ok (.iaload, 1) := dAL_law_14.2.2.2.2.2.2.1
theorem dL_law_411 : decode cL_law 411 = .ok (.aload_n 0, 1) := dAL_law_14.2.2.2.2.2.2.2
set_option maxRecDepth 100000 in
theorem dAL_law_15 : decode cL_law 412 = .ok (.iload 4, 2) ∧ decode cL_law 414 = .ok (.iconst 2, 1) ∧ decode cL_law 415 = .ok (.iadd, 1) ∧ decode cL_law 416 = .ok (.iaload, 1) ∧ decode cL_law 417 = .ok (.invokevirtual 37, 3) ∧ decode cL_law 420 = .ok (.pop, 1) ∧ decode cL_law 421 = .ok (.aload_n 2, 1) ∧ decode cL_law 422 = .ok (.aload_n 0, 1) := by decide +kernel
theorem dL_law_412 : decode cL_law 412 = .ok (.iload 4, 2) := dAL_law_15.1
theorem dL_law_414 : decode cL_law 414 = .ok (.iconst 2, 1) := dAL_law_15.2.1
theorem dL_law_415 : decode cL_law 415 = .ok (.iadd, 1) := dAL_law_15.2.2.1
theorem dL_law_416 : decode cL_law 416 = .ok (.iaload, 1) := dAL_law_15.2.2.2.1
theorem dL_law_417 : decode cL_law 417 = .ok (.invokevirtual 37, 3) := dAL_law_15.2.2.2.2.1
theorem dL_law_420 : decode cL_law 420 = .ok (.pop, 1) := dAL_law_15.2.2.2.2.2.1
theorem dL_law_421 : decode cL_law 421 = .ok (.aload_n 2, 1) := dAL_law_15.2.2.2.2.2.2.1
theorem dL_law_422 : decode cL_law 422 = .ok (.aload_n 0, 1) := dAL_law_15.2.2.2.2.2.2.2
set_option maxRecDepth 100000 in
theorem dAL_law_16 : decode cL_law 423 = .ok (.iload 4, 2) ∧ decode cL_law 425 = .ok (.iconst 1, 1) ∧ decode cL_law 426 = .ok (.iadd, 1) ∧ decode cL_law 427 = .ok (.iaload, 1) ∧ decode cL_law 428 = .ok (.aload_n 0, 1) ∧ decode cL_law 429 = .ok (.iload 4, 2) ∧ decode cL_law 431 = .ok (.iconst 2, 1) ∧ decode cL_law 432 = .ok (.iadd, 1) := by decide +kernel
theorem dL_law_423 : decode cL_law 423 = .ok (.iload 4, 2) := dAL_law_16.1
theorem dL_law_425 : decode cL_law 425 = .ok (.iconst 1, 1) := dAL_law_16.2.1
theorem dL_law_426 : decode cL_law 426 = .ok (.iadd, 1) := dAL_law_16.2.2.1
theorem dL_law_427 : decode cL_law 427 = .ok (.iaload, 1) := dAL_law_16.2.2.2.1
theorem dL_law_428 : decode cL_law 428 = .ok (.aload_n 0, 1) := dAL_law_16.2.2.2.2.1
theorem dL_law_429 : decode cL_law 429 = .ok (.iload 4, 2) := dAL_law_16.2.2.2.2.2.1
theorem dL_law_431 : decode cL_law 431 = .ok (.iconst 2, 1) := dAL_law_16.2.2.2.2.2.2.1
theorem dL_law_432 : decode cL_law 432 = .ok (.iadd, 1) := dAL_law_16.2.2.2.2.2.2.2
set_option maxRecDepth 100000 in
theorem dAL_law_17 : decode cL_law 433 = .ok (.iaload, 1) ∧ decode cL_law 434 = .ok (.invokevirtual 41, 3) ∧ decode cL_law 437 = .ok (.pop, 1) ∧ decode cL_law 438 = .ok (.goto 1389, 3) ∧ decode cL_law 441 = .ok (.aload_n 1, 1) ∧ decode cL_law 442 = .ok (.aload_n 0, 1) ∧ decode cL_law 443 = .ok (.iload 4, 2) ∧ decode cL_law 445 = .ok (.iconst 1, 1) := by decide +kernel
theorem dL_law_433 : decode cL_law 433 = .ok (.iaload, 1) := dAL_law_17.1
theorem dL_law_434 : decode cL_law 434 = .ok (.invokevirtual 41, 3) := dAL_law_17.2.1
theorem dL_law_437 : decode cL_law 437 = .ok (.pop, 1) := dAL_law_17.2.2.1
theorem dL_law_438 : decode cL_law 438 = .ok (.goto 1389, 3) := dAL_law_17.2.2.2.1
theorem dL_law_441 : decode cL_law 441 = .ok (.aload_n 1, 1) := dAL_law_17.2.2.2.2.1
theorem dL_law_442 : decode cL_law 442 = .ok (.aload_n 0, 1) := dAL_law_17.2.2.2.2.2.1
theorem dL_law_443 : decode cL_law 443 = .ok (.iload 4, 2) := dAL_law_17.2.2.2.2.2.2.1
theorem dL_law_445 : decode cL_law 445 = .ok (.iconst 1, 1) := dAL_law_17.2.2.2.2.2.2.2
set_option maxRecDepth 100000 in
theorem dAL_law_18 : decode cL_law 446 = .ok (.iadd, 1) ∧ decode cL_law 447 = .ok (.iaload, 1) ∧ decode cL_law 448 = .ok (.aload_n 0, 1) ∧ decode cL_law 449 = .ok (.iload 4, 2) ∧ decode cL_law 451 = .ok (.iconst 2, 1) ∧ decode cL_law 452 = .ok (.iadd, 1) ∧ decode cL_law 453 = .ok (.iaload, 1) ∧ decode cL_law 454 = .ok (.invokevirtual 42, 3) := by decide +kernel
theorem dL_law_446 : decode cL_law 446 = .ok (.iadd, 1) := dAL_law_18.1
theorem dL_law_447 : decode cL_law 447 = .ok (.iaload, 1) := dAL_law_18.2.1
theorem dL_law_448 : decode cL_law 448 = .ok (.aload_n 0, 1) := dAL_law_18.2.2.1
theorem dL_law_449 : decode cL_law 449 = .ok (.iload 4, 2) := dAL_law_18.2.2.2.1
theorem dL_law_451 : decode cL_law 451 = .ok (.iconst 2, 1) := dAL_law_18.2.2.2.2.1
theorem dL_law_452 : decode cL_law 452 = .ok (.iadd, 1) := dAL_law_18.2.2.2.2.2.1
theorem dL_law_453 : decode cL_law 453 = .ok (.iaload, 1) := dAL_law_18.2.2.2.2.2.2.1
theorem dL_law_454 : decode cL_law 454 = .ok (.invokevirtual 42, 3) := dAL_law_18.2.2.2.2.2.2.2
set_option maxRecDepth 100000 in
theorem dAL_law_19 : decode cL_law 457 = .ok (.pop, 1) ∧ decode cL_law 458 = .ok (.aload_n 2, 1) ∧ decode cL_law 459 = .ok (.aload_n 0, 1) ∧ decode cL_law 460 = .ok (.iload 4, 2) ∧ decode cL_law 462 = .ok (.iconst 1, 1) ∧ decode cL_law 463 = .ok (.iadd, 1) ∧ decode cL_law 464 = .ok (.iaload, 1) ∧ decode cL_law 465 = .ok (.aload_n 0, 1) := by decide +kernel
theorem dL_law_457 : decode cL_law 457 = .ok (.pop, 1) := dAL_law_19.1
theorem dL_law_458 : decode cL_law 458 = .ok (.aload_n 2, 1) := dAL_law_19.2.1
theorem dL_law_459 : decode cL_law 459 = .ok (.aload_n 0, 1) := dAL_law_19.2.2.1
theorem dL_law_460 : decode cL_law 460 = .ok (.iload 4, 2) := dAL_law_19.2.2.2.1
theorem dL_law_462 : decode cL_law 462 = .ok (.iconst 1, 1) := dAL_law_19.2.2.2.2.1
theorem dL_law_463 : decode cL_law 463 = .ok (.iadd, 1) := dAL_law_19.2.2.2.2.2.1
theorem dL_law_464 : decode cL_law 464 = .ok (.iaload, 1) := dAL_law_19.2.2.2.2.2.2.1
theorem dL_law_465 : decode cL_law 465 = .ok (.aload_n 0, 1) := dAL_law_19.2.2.2.2.2.2.2
set_option maxRecDepth 100000 in
theorem dAL_law_20 : decode cL_law 466 = .ok (.iload 4, 2) ∧ decode cL_law 468 = .ok (.iconst 2, 1) ∧ decode cL_law 469 = .ok (.iadd, 1) ∧ decode cL_law 470 = .ok (.iaload, 1) ∧ decode cL_law 471 = .ok (.invokevirtual 45, 3) ∧ decode cL_law 474 = .ok (.pop, 1) ∧ decode cL_law 475 = .ok (.goto 1352, 3) ∧ decode cL_law 478 = .ok (.aload_n 1, 1) := by decide +kernel
theorem dL_law_466 : decode cL_law 466 = .ok (.iload 4, 2) := dAL_law_20.1
theorem dL_law_468 : decode cL_law 468 = .ok (.iconst 2, 1) := dAL_law_20.2.1
theorem dL_law_469 : decode cL_law 469 = .ok (.iadd, 1) := dAL_law_20.2.2.1
theorem dL_law_470 : decode cL_law 470 = .ok (.iaload, 1) := dAL_law_20.2.2.2.1
theorem dL_law_471 : decode cL_law 471 = .ok (.invokevirtual 45, 3) := dAL_law_20.2.2.2.2.1
theorem dL_law_474 : decode cL_law 474 = .ok (.pop, 1) := dAL_law_20.2.2.2.2.2.1
theorem dL_law_475 : decode cL_law 475 = .ok (.goto 1352, 3) := dAL_law_20.2.2.2.2.2.2.1
theorem dL_law_478 : decode cL_law 478 = .ok (.aload_n 1, 1) := dAL_law_20.2.2.2.2.2.2.2
set_option maxRecDepth 100000 in
theorem dAL_law_21 : decode cL_law 479 = .ok (.aload_n 0, 1) ∧ decode cL_law 480 = .ok (.iload 4, 2) ∧ decode cL_law 482 = .ok (.iconst 1, 1) ∧ decode cL_law 483 = .ok (.iadd, 1) ∧ decode cL_law 484 = .ok (.iaload, 1) ∧ decode cL_law 485 = .ok (.aload_n 0, 1) ∧ decode cL_law 486 = .ok (.iload 4, 2) ∧ decode cL_law 488 = .ok (.iconst 2, 1) := by decide +kernel
theorem dL_law_479 : decode cL_law 479 = .ok (.aload_n 0, 1) := dAL_law_21.1
theorem dL_law_480 : decode cL_law 480 = .ok (.iload 4, 2) := dAL_law_21.2.1
theorem dL_law_482 : decode cL_law 482 = .ok (.iconst 1, 1) := dAL_law_21.2.2.1
theorem dL_law_483 : decode cL_law 483 = .ok (.iadd, 1) := dAL_law_21.2.2.2.1
theorem dL_law_484 : decode cL_law 484 = .ok (.iaload, 1) := dAL_law_21.2.2.2.2.1
theorem dL_law_485 : decode cL_law 485 = .ok (.aload_n 0, 1) := dAL_law_21.2.2.2.2.2.1
theorem dL_law_486 : decode cL_law 486 = .ok (.iload 4, 2) := dAL_law_21.2.2.2.2.2.2.1
theorem dL_law_488 : decode cL_law 488 = .ok (.iconst 2, 1) := dAL_law_21.2.2.2.2.2.2.2
set_option maxRecDepth 100000 in
theorem dAL_law_22 : decode cL_law 489 = .ok (.iadd, 1) ∧ decode cL_law 490 = .ok (.iaload, 1) ∧ decode cL_law 491 = .ok (.invokevirtual 46, 3) ∧ decode cL_law 494 = .ok (.pop, 1) ∧ decode cL_law 495 = .ok (.aload_n 2, 1) ∧ decode cL_law 496 = .ok (.aload_n 0, 1) ∧ decode cL_law 497 = .ok (.iload 4, 2) ∧ decode cL_law 499 = .ok (.iconst 1, 1) := by decide +kernel
theorem dL_law_489 : decode cL_law 489 = .ok (.iadd, 1) := dAL_law_22.1
theorem dL_law_490 : decode cL_law 490 = .ok (.iaload, 1) := dAL_law_22.2.1
theorem dL_law_491 : decode cL_law 491 = .ok (.invokevirtual 46, 3) := dAL_law_22.2.2.1
theorem dL_law_494 : decode cL_law 494 = .ok (.pop, 1) := dAL_law_22.2.2.2.1
theorem dL_law_495 : decode cL_law 495 = .ok (.aload_n 2, 1) := dAL_law_22.2.2.2.2.1
theorem dL_law_496 : decode cL_law 496 = .ok (.aload_n 0, 1) := dAL_law_22.2.2.2.2.2.1
theorem dL_law_497 : decode cL_law 497 = .ok (.iload 4, 2) := dAL_law_22.2.2.2.2.2.2.1
theorem dL_law_499 : decode cL_law 499 = .ok (.iconst 1, 1) := dAL_law_22.2.2.2.2.2.2.2
set_option maxRecDepth 100000 in
theorem dAL_law_23 : decode cL_law 500 = .ok (.iadd, 1) ∧ decode cL_law 501 = .ok (.iaload, 1) ∧ decode cL_law 502 = .ok (.aload_n 0, 1) ∧ decode cL_law 503 = .ok (.iload 4, 2) ∧ decode cL_law 505 = .ok (.iconst 2, 1) ∧ decode cL_law 506 = .ok (.iadd, 1) ∧ decode cL_law 507 = .ok (.iaload, 1) ∧ decode cL_law 508 = .ok (.invokevirtual 49, 3) := by decide +kernel
theorem dL_law_500 : decode cL_law 500 = .ok (.iadd, 1) := dAL_law_23.1
theorem dL_law_501 : decode cL_law 501 = .ok (.iaload, 1) := dAL_law_23.2.1
theorem dL_law_502 : decode cL_law 502 = .ok (.aload_n 0, 1) := dAL_law_23.2.2.1
theorem dL_law_503 : decode cL_law 503 = .ok (.iload 4, 2) := dAL_law_23.2.2.2.1
theorem dL_law_505 : decode cL_law 505 = .ok (.iconst 2, 1) := dAL_law_23.2.2.2.2.1
theorem dL_law_506 : decode cL_law 506 = .ok (.iadd, 1) := dAL_law_23.2.2.2.2.2.1
theorem dL_law_507 : decode cL_law 507 = .ok (.iaload, 1) := dAL_law_23.2.2.2.2.2.2.1
theorem dL_law_508 : decode cL_law 508 = .ok (.invokevirtual 49, 3) := dAL_law_23.2.2.2.2.2.2.2
set_option maxRecDepth 100000 in
theorem dAL_law_24 : decode cL_law 511 = .ok (.pop, 1) ∧ decode cL_law 512 = .ok (.goto 1315, 3) ∧ decode cL_law 515 = .ok (.aload_n 1, 1) ∧ decode cL_law 516 = .ok (.invokevirtual 50, 3) ∧ decode cL_law 519 = .ok (.aload_n 2, 1) ∧ decode cL_law 520 = .ok (.invokevirtual 53, 3) ∧ decode cL_law 523 = .ok (.if_icmp .eq 1304, 3) ∧ decode cL_law 526 = .ok (.iconst 0, 1) := by decide +kernel
theorem dL_law_511 : decode cL_law 511 = .ok (.pop, 1) := dAL_law_24.1
theorem dL_law_512 : decode cL_law 512 = .ok (.goto 1315, 3) := dAL_law_24.2.1
theorem dL_law_515 : decode cL_law 515 = .ok (.aload_n 1, 1) := dAL_law_24.2.2.1
theorem dL_law_516 : decode cL_law 516 = .ok (.invokevirtual 50, 3) := dAL_law_24.2.2.2.1
theorem dL_law_519 : decode cL_law 519 = .ok (.aload_n 2, 1) := dAL_law_24.2.2.2.2.1
theorem dL_law_520 : decode cL_law 520 = .ok (.invokevirtual 53, 3) := dAL_law_24.2.2.2.2.2.1
theorem dL_law_523 : decode cL_law 523 = .ok (.if_icmp .eq 1304, 3) := dAL_law_24.2.2.2.2.2.2.1
theorem dL_law_526 : decode cL_law 526 = .ok (.iconst 0, 1) := dAL_law_24.2.2.2.2.2.2.2
set_option maxRecDepth 100000 in
theorem dAL_law_25 : decode cL_law 527 = .ok (.ireturn, 1) ∧ decode cL_law 528 = .ok (.aload_n 1, 1) ∧ decode cL_law 529 = .ok (.aload_n 0, 1) ∧ decode cL_law 530 = .ok (.iload 4, 2) ∧ decode cL_law 532 = .ok (.iconst 1, 1) ∧ decode cL_law 533 = .ok (.iadd, 1) ∧ decode cL_law 534 = .ok (.iaload, 1) ∧ decode cL_law 535 = .ok (.aload_n 0, 1) := by decide +kernel
theorem dL_law_527 : decode cL_law 527 = .ok (.ireturn, 1) := dAL_law_25.1
theorem dL_law_528 : decode cL_law 528 = .ok (.aload_n 1, 1) := dAL_law_25.2.1
theorem dL_law_529 : decode cL_law 529 = .ok (.aload_n 0, 1) := dAL_law_25.2.2.1
theorem dL_law_530 : decode cL_law 530 = .ok (.iload 4, 2) := dAL_law_25.2.2.2.1
theorem dL_law_532 : decode cL_law 532 = .ok (.iconst 1, 1) := dAL_law_25.2.2.2.2.1
theorem dL_law_533 : decode cL_law 533 = .ok (.iadd, 1) := dAL_law_25.2.2.2.2.2.1
theorem dL_law_534 : decode cL_law 534 = .ok (.iaload, 1) := dAL_law_25.2.2.2.2.2.2.1
theorem dL_law_535 : decode cL_law 535 = .ok (.aload_n 0, 1) := dAL_law_25.2.2.2.2.2.2.2
set_option maxRecDepth 100000 in
theorem dAL_law_26 : decode cL_law 536 = .ok (.iload 4, 2) ∧ decode cL_law 538 = .ok (.iconst 2, 1) ∧ decode cL_law 539 = .ok (.iadd, 1) ∧ decode cL_law 540 = .ok (.iaload, 1) ∧ decode cL_law 541 = .ok (.ifCond .eq 7, 3) ∧ decode cL_law 544 = .ok (.iconst 1, 1) ∧ decode cL_law 545 = .ok (.goto 4, 3) ∧ decode cL_law 548 = .ok (.iconst 0, 1) := by decide +kernel
theorem dL_law_536 : decode cL_law 536 = .ok (.iload 4, 2) := dAL_law_26.1
theorem dL_law_538 : decode cL_law 538 = .ok (.iconst 2, 1) := dAL_law_26.2.1
theorem dL_law_539 : decode cL_law 539 = .ok (.iadd, 1) := dAL_law_26.2.2.1
theorem dL_law_540 : decode cL_law 540 = .ok (.iaload, 1) := dAL_law_26.2.2.2.1
theorem dL_law_541 : decode cL_law 541 = .ok (.ifCond .eq 7, 3) := dAL_law_26.2.2.2.2.1
theorem dL_law_544 : decode cL_law 544 = .ok (.iconst 1, 1) := dAL_law_26.2.2.2.2.2.1
theorem dL_law_545 : decode cL_law 545 = .ok (.goto 4, 3) := dAL_law_26.2.2.2.2.2.2.1
theorem dL_law_548 : decode cL_law 548 = .ok (.iconst 0, 1) := dAL_law_26.2.2.2.2.2.2.2
set_option maxRecDepth 100000 in
theorem dAL_law_27 : decode cL_law 549 = .ok (.invokevirtual 54, 3) ∧ decode cL_law 552 = .ok (.pop2, 1) ∧ decode cL_law 553 = .ok (.aload_n 2, 1) ∧ decode cL_law 554 = .ok (.aload_n 0, 1) ∧ decode cL_law 555 = .ok (.iload 4, 2) ∧ decode cL_law 557 = .ok (.iconst 1, 1) ∧ decode cL_law 558 = .ok (.iadd, 1) ∧ decode cL_law 559 = .ok (.iaload, 1) := by decide +kernel
theorem dL_law_549 : decode cL_law 549 = .ok (.invokevirtual 54, 3) := dAL_law_27.1
theorem dL_law_552 : decode cL_law 552 = .ok (.pop2, 1) := dAL_law_27.2.1
theorem dL_law_553 : decode cL_law 553 = .ok (.aload_n 2, 1) := dAL_law_27.2.2.1
theorem dL_law_554 : decode cL_law 554 = .ok (.aload_n 0, 1) := dAL_law_27.2.2.2.1
theorem dL_law_555 : decode cL_law 555 = .ok (.iload 4, 2) := dAL_law_27.2.2.2.2.1
theorem dL_law_557 : decode cL_law 557 = .ok (.iconst 1, 1) := dAL_law_27.2.2.2.2.2.1
theorem dL_law_558 : decode cL_law 558 = .ok (.iadd, 1) := dAL_law_27.2.2.2.2.2.2.1
theorem dL_law_559 : decode cL_law 559 = .ok (.iaload, 1) := dAL_law_27.2.2.2.2.2.2.2
set_option maxRecDepth 100000 in
theorem dAL_law_28 : decode cL_law 560 = .ok (.aload_n 0, 1) ∧ decode cL_law 561 = .ok (.iload 4, 2) ∧ decode cL_law 563 = .ok (.iconst 2, 1) ∧ decode cL_law 564 = .ok (.iadd, 1) ∧ decode cL_law 565 = .ok (.iaload, 1) ∧ decode cL_law 566 = .ok (.ifCond .eq 7, 3) ∧ decode cL_law 569 = .ok (.iconst 1, 1) ∧ decode cL_law 570 = .ok (.goto 4, 3) := by decide +kernel
theorem dL_law_560 : decode cL_law 560 = .ok (.aload_n 0, 1) := dAL_law_28.1
theorem dL_law_561 : decode cL_law 561 = .ok (.iload 4, 2) := dAL_law_28.2.1
theorem dL_law_563 : decode cL_law 563 = .ok (.iconst 2, 1) := dAL_law_28.2.2.1
theorem dL_law_564 : decode cL_law 564 = .ok (.iadd, 1) := dAL_law_28.2.2.2.1
theorem dL_law_565 : decode cL_law 565 = .ok (.iaload, 1) := dAL_law_28.2.2.2.2.1
theorem dL_law_566 : decode cL_law 566 = .ok (.ifCond .eq 7, 3) := dAL_law_28.2.2.2.2.2.1
theorem dL_law_569 : decode cL_law 569 = .ok (.iconst 1, 1) := dAL_law_28.2.2.2.2.2.2.1
theorem dL_law_570 : decode cL_law 570 = .ok (.goto 4, 3) := dAL_law_28.2.2.2.2.2.2.2
set_option maxRecDepth 100000 in
theorem dAL_law_29 : decode cL_law 573 = .ok (.iconst 0, 1) ∧ decode cL_law 574 = .ok (.invokevirtual 58, 3) ∧ decode cL_law 577 = .ok (.pop2, 1) ∧ decode cL_law 578 = .ok (.goto 1249, 3) ∧ decode cL_law 581 = .ok (.aload_n 1, 1) ∧ decode cL_law 582 = .ok (.aload_n 0, 1) ∧ decode cL_law 583 = .ok (.iload 4, 2) ∧ decode cL_law 585 = .ok (.iconst 1, 1) := by decide +kernel
theorem dL_law_573 : decode cL_law 573 = .ok (.iconst 0, 1) := dAL_law_29.1
theorem dL_law_574 : decode cL_law 574 = .ok (.invokevirtual 58, 3) := dAL_law_29.2.1
theorem dL_law_577 : decode cL_law 577 = .ok (.pop2, 1) := dAL_law_29.2.2.1
theorem dL_law_578 : decode cL_law 578 = .ok (.goto 1249, 3) := dAL_law_29.2.2.2.1
theorem dL_law_581 : decode cL_law 581 = .ok (.aload_n 1, 1) := dAL_law_29.2.2.2.2.1
theorem dL_law_582 : decode cL_law 582 = .ok (.aload_n 0, 1) := dAL_law_29.2.2.2.2.2.1
theorem dL_law_583 : decode cL_law 583 = .ok (.iload 4, 2) := dAL_law_29.2.2.2.2.2.2.1
theorem dL_law_585 : decode cL_law 585 = .ok (.iconst 1, 1) := dAL_law_29.2.2.2.2.2.2.2
set_option maxRecDepth 100000 in
theorem dAL_law_30 : decode cL_law 586 = .ok (.iadd, 1) ∧ decode cL_law 587 = .ok (.iaload, 1) ∧ decode cL_law 588 = .ok (.invokevirtual 59, 3) ∧ decode cL_law 591 = .ok (.pop, 1) ∧ decode cL_law 592 = .ok (.aload_n 2, 1) ∧ decode cL_law 593 = .ok (.aload_n 0, 1) ∧ decode cL_law 594 = .ok (.iload 4, 2) ∧ decode cL_law 596 = .ok (.iconst 1, 1) := by decide +kernel
theorem dL_law_586 : decode cL_law 586 = .ok (.iadd, 1) := dAL_law_30.1
theorem dL_law_587 : decode cL_law 587 = .ok (.iaload, 1) := dAL_law_30.2.1
theorem dL_law_588 : decode cL_law 588 = .ok (.invokevirtual 59, 3) := dAL_law_30.2.2.1
theorem dL_law_591 : decode cL_law 591 = .ok (.pop, 1) := dAL_law_30.2.2.2.1
theorem dL_law_592 : decode cL_law 592 = .ok (.aload_n 2, 1) := dAL_law_30.2.2.2.2.1
theorem dL_law_593 : decode cL_law 593 = .ok (.aload_n 0, 1) := dAL_law_30.2.2.2.2.2.1
theorem dL_law_594 : decode cL_law 594 = .ok (.iload 4, 2) := dAL_law_30.2.2.2.2.2.2.1
theorem dL_law_596 : decode cL_law 596 = .ok (.iconst 1, 1) := dAL_law_30.2.2.2.2.2.2.2
set_option maxRecDepth 100000 in
theorem dAL_law_31 : decode cL_law 597 = .ok (.iadd, 1) ∧ decode cL_law 598 = .ok (.iaload, 1) ∧ decode cL_law 599 = .ok (.invokevirtual 62, 3) ∧ decode cL_law 602 = .ok (.pop, 1) ∧ decode cL_law 603 = .ok (.goto 1224, 3) ∧ decode cL_law 606 = .ok (.aload_n 1, 1) ∧ decode cL_law 607 = .ok (.invokevirtual 63, 3) ∧ decode cL_law 610 = .ok (.pop, 1) := by decide +kernel
theorem dL_law_597 : decode cL_law 597 = .ok (.iadd, 1) := dAL_law_31.1
theorem dL_law_598 : decode cL_law 598 = .ok (.iaload, 1) := dAL_law_31.2.1
theorem dL_law_599 : decode cL_law 599 = .ok (.invokevirtual 62, 3) := dAL_law_31.2.2.1
theorem dL_law_602 : decode cL_law 602 = .ok (.pop, 1) := dAL_law_31.2.2.2.1
theorem dL_law_603 : decode cL_law 603 = .ok (.goto 1224, 3) := dAL_law_31.2.2.2.2.1
theorem dL_law_606 : decode cL_law 606 = .ok (.aload_n 1, 1) := dAL_law_31.2.2.2.2.2.1
theorem dL_law_607 : decode cL_law 607 = .ok (.invokevirtual 63, 3) := dAL_law_31.2.2.2.2.2.2.1
theorem dL_law_610 : decode cL_law 610 = .ok (.pop, 1) := dAL_law_31.2.2.2.2.2.2.2
set_option maxRecDepth 100000 in
theorem dAL_law_32 : decode cL_law 611 = .ok (.aload_n 2, 1) ∧ decode cL_law 612 = .ok (.invokevirtual 66, 3) ∧ decode cL_law 615 = .ok (.pop, 1) ∧ decode cL_law 616 = .ok (.goto 1211, 3) ∧ decode cL_law 619 = .ok (.aload_n 1, 1) ∧ decode cL_law 620 = .ok (.aload_n 0, 1) ∧ decode cL_law 621 = .ok (.iload 4, 2) ∧ decode cL_law 623 = .ok (.iconst 1, 1) := by decide +kernel
theorem dL_law_611 : decode cL_law 611 = .ok (.aload_n 2, 1) := dAL_law_32.1
theorem dL_law_612 : decode cL_law 612 = .ok (.invokevirtual 66, 3) := dAL_law_32.2.1
theorem dL_law_615 : decode cL_law 615 = .ok (.pop, 1) := dAL_law_32.2.2.1
theorem dL_law_616 : decode cL_law 616 = .ok (.goto 1211, 3) := dAL_law_32.2.2.2.1
theorem dL_law_619 : decode cL_law 619 = .ok (.aload_n 1, 1) := dAL_law_32.2.2.2.2.1
theorem dL_law_620 : decode cL_law 620 = .ok (.aload_n 0, 1) := dAL_law_32.2.2.2.2.2.1
theorem dL_law_621 : decode cL_law 621 = .ok (.iload 4, 2) := dAL_law_32.2.2.2.2.2.2.1
theorem dL_law_623 : decode cL_law 623 = .ok (.iconst 1, 1) := dAL_law_32.2.2.2.2.2.2.2
set_option maxRecDepth 100000 in
theorem dAL_law_33 : decode cL_law 624 = .ok (.iadd, 1) ∧ decode cL_law 625 = .ok (.iaload, 1) ∧ decode cL_law 626 = .ok (.invokevirtual 67, 3) ∧ decode cL_law 629 = .ok (.pop, 1) ∧ decode cL_law 630 = .ok (.aload_n 2, 1) ∧ decode cL_law 631 = .ok (.aload_n 0, 1) ∧ decode cL_law 632 = .ok (.iload 4, 2) ∧ decode cL_law 634 = .ok (.iconst 1, 1) := by decide +kernel
theorem dL_law_624 : decode cL_law 624 = .ok (.iadd, 1) := dAL_law_33.1
theorem dL_law_625 : decode cL_law 625 = .ok (.iaload, 1) := dAL_law_33.2.1
theorem dL_law_626 : decode cL_law 626 = .ok (.invokevirtual 67, 3) := dAL_law_33.2.2.1
theorem dL_law_629 : decode cL_law 629 = .ok (.pop, 1) := dAL_law_33.2.2.2.1
theorem dL_law_630 : decode cL_law 630 = .ok (.aload_n 2, 1) := dAL_law_33.2.2.2.2.1
theorem dL_law_631 : decode cL_law 631 = .ok (.aload_n 0, 1) := dAL_law_33.2.2.2.2.2.1
theorem dL_law_632 : decode cL_law 632 = .ok (.iload 4, 2) := dAL_law_33.2.2.2.2.2.2.1
theorem dL_law_634 : decode cL_law 634 = .ok (.iconst 1, 1) := dAL_law_33.2.2.2.2.2.2.2
set_option maxRecDepth 100000 in
theorem dAL_law_34 : decode cL_law 635 = .ok (.iadd, 1) ∧ decode cL_law 636 = .ok (.iaload, 1) ∧ decode cL_law 637 = .ok (.invokevirtual 70, 3) ∧ decode cL_law 640 = .ok (.pop, 1) ∧ decode cL_law 641 = .ok (.goto 1186, 3) ∧ decode cL_law 644 = .ok (.aload_n 1, 1) ∧ decode cL_law 645 = .ok (.invokevirtual 71, 3) ∧ decode cL_law 648 = .ok (.pop, 1) := by decide +kernel
theorem dL_law_635 : decode cL_law 635 = .ok (.iadd, 1) := dAL_law_34.1
theorem dL_law_636 : decode cL_law 636 = .ok (.iaload, 1) := dAL_law_34.2.1
theorem dL_law_637 : decode cL_law 637 = .ok (.invokevirtual 70, 3) := dAL_law_34.2.2.1
theorem dL_law_640 : decode cL_law 640 = .ok (.pop, 1) := dAL_law_34.2.2.2.1
theorem dL_law_641 : decode cL_law 641 = .ok (.goto 1186, 3) := dAL_law_34.2.2.2.2.1
theorem dL_law_644 : decode cL_law 644 = .ok (.aload_n 1, 1) := dAL_law_34.2.2.2.2.2.1
theorem dL_law_645 : decode cL_law 645 = .ok (.invokevirtual 71, 3) := dAL_law_34.2.2.2.2.2.2.1
theorem dL_law_648 : decode cL_law 648 = .ok (.pop, 1) := dAL_law_34.2.2.2.2.2.2.2
set_option maxRecDepth 100000 in
theorem dAL_law_35 : decode cL_law 649 = .ok (.aload_n 2, 1) ∧ decode cL_law 650 = .ok (.invokevirtual 74, 3) ∧ decode cL_law 653 = .ok (.pop, 1) ∧ decode cL_law 654 = .ok (.goto 1173, 3) ∧ decode cL_law 657 = .ok (.aload_n 1, 1) ∧ decode cL_law 658 = .ok (.invokevirtual 75, 3) ∧ decode cL_law 661 = .ok (.pop, 1) ∧ decode cL_law 662 = .ok (.aload_n 2, 1) := by decide +kernel
theorem dL_law_649 : decode cL_law 649 = .ok (.aload_n 2, 1) := dAL_law_35.1
theorem dL_law_650 : decode cL_law 650 = .ok (.invokevirtual 74, 3) := dAL_law_35.2.1
theorem dL_law_653 : decode cL_law 653 = .ok (.pop, 1) := dAL_law_35.2.2.1
theorem dL_law_654 : decode cL_law 654 = .ok (.goto 1173, 3) := dAL_law_35.2.2.2.1
theorem dL_law_657 : decode cL_law 657 = .ok (.aload_n 1, 1) := dAL_law_35.2.2.2.2.1
theorem dL_law_658 : decode cL_law 658 = .ok (.invokevirtual 75, 3) := dAL_law_35.2.2.2.2.2.1
theorem dL_law_661 : decode cL_law 661 = .ok (.pop, 1) := dAL_law_35.2.2.2.2.2.2.1
theorem dL_law_662 : decode cL_law 662 = .ok (.aload_n 2, 1) := dAL_law_35.2.2.2.2.2.2.2
set_option maxRecDepth 100000 in
theorem dAL_law_36 : decode cL_law 663 = .ok (.invokevirtual 78, 3) ∧ decode cL_law 666 = .ok (.pop, 1) ∧ decode cL_law 667 = .ok (.goto 1160, 3) ∧ decode cL_law 670 = .ok (.aload_n 1, 1) ∧ decode cL_law 671 = .ok (.aload_n 0, 1) ∧ decode cL_law 672 = .ok (.iload 4, 2) ∧ decode cL_law 674 = .ok (.iconst 1, 1) ∧ decode cL_law 675 = .ok (.iadd, 1) := by decide +kernel
theorem dL_law_663 : decode cL_law 663 = .ok (.invokevirtual 78, 3) := dAL_law_36.1
theorem dL_law_666 : decode cL_law 666 = .ok (.pop, 1) := dAL_law_36.2.1
theorem dL_law_667 : decode cL_law 667 = .ok (.goto 1160, 3) := dAL_law_36.2.2.1
theorem dL_law_670 : decode cL_law 670 = .ok (.aload_n 1, 1) := dAL_law_36.2.2.2.1
theorem dL_law_671 : decode cL_law 671 = .ok (.aload_n 0, 1) := dAL_law_36.2.2.2.2.1
theorem dL_law_672 : decode cL_law 672 = .ok (.iload 4, 2) := dAL_law_36.2.2.2.2.2.1
theorem dL_law_674 : decode cL_law 674 = .ok (.iconst 1, 1) := dAL_law_36.2.2.2.2.2.2.1
theorem dL_law_675 : decode cL_law 675 = .ok (.iadd, 1) := dAL_law_36.2.2.2.2.2.2.2
set_option maxRecDepth 100000 in
theorem dAL_law_37 : decode cL_law 676 = .ok (.iaload, 1) ∧ decode cL_law 677 = .ok (.invokevirtual 79, 3) ∧ decode cL_law 680 = .ok (.pop, 1) ∧ decode cL_law 681 = .ok (.aload_n 2, 1) ∧ decode cL_law 682 = .ok (.aload_n 0, 1) ∧ decode cL_law 683 = .ok (.iload 4, 2) ∧ decode cL_law 685 = .ok (.iconst 1, 1) ∧ decode cL_law 686 = .ok (.iadd, 1) := by decide +kernel
theorem dL_law_676 : decode cL_law 676 = .ok (.iaload, 1) := dAL_law_37.1
theorem dL_law_677 : decode cL_law 677 = .ok (.invokevirtual 79, 3) := dAL_law_37.2.1
theorem dL_law_680 : decode cL_law 680 = .ok (.pop, 1) := dAL_law_37.2.2.1
theorem dL_law_681 : decode cL_law 681 = .ok (.aload_n 2, 1) := dAL_law_37.2.2.2.1
theorem dL_law_682 : decode cL_law 682 = .ok (.aload_n 0, 1) := dAL_law_37.2.2.2.2.1
theorem dL_law_683 : decode cL_law 683 = .ok (.iload 4, 2) := dAL_law_37.2.2.2.2.2.1
theorem dL_law_685 : decode cL_law 685 = .ok (.iconst 1, 1) := dAL_law_37.2.2.2.2.2.2.1
theorem dL_law_686 : decode cL_law 686 = .ok (.iadd, 1) := dAL_law_37.2.2.2.2.2.2.2
set_option maxRecDepth 100000 in
theorem dAL_law_38 : decode cL_law 687 = .ok (.iaload, 1) ∧ decode cL_law 688 = .ok (.invokevirtual 82, 3) ∧ decode cL_law 691 = .ok (.pop, 1) ∧ decode cL_law 692 = .ok (.goto 1135, 3) ∧ decode cL_law 695 = .ok (.aload_n 1, 1) ∧ decode cL_law 696 = .ok (.invokevirtual 83, 3) ∧ decode cL_law 699 = .ok (.pop, 1) ∧ decode cL_law 700 = .ok (.aload_n 2, 1) := by decide +kernel
theorem dL_law_687 : decode cL_law 687 = .ok (.iaload, 1) := dAL_law_38.1
theorem dL_law_688 : decode cL_law 688 = .ok (.invokevirtual 82, 3) := dAL_law_38.2.1
theorem dL_law_691 : decode cL_law 691 = .ok (.pop, 1) := dAL_law_38.2.2.1
theorem dL_law_692 : decode cL_law 692 = .ok (.goto 1135, 3) := dAL_law_38.2.2.2.1
theorem dL_law_695 : decode cL_law 695 = .ok (.aload_n 1, 1) := dAL_law_38.2.2.2.2.1
theorem dL_law_696 : decode cL_law 696 = .ok (.invokevirtual 83, 3) := dAL_law_38.2.2.2.2.2.1
theorem dL_law_699 : decode cL_law 699 = .ok (.pop, 1) := dAL_law_38.2.2.2.2.2.2.1
theorem dL_law_700 : decode cL_law 700 = .ok (.aload_n 2, 1) := dAL_law_38.2.2.2.2.2.2.2
set_option maxRecDepth 100000 in
theorem dAL_law_39 : decode cL_law 701 = .ok (.invokevirtual 86, 3) ∧ decode cL_law 704 = .ok (.pop, 1) ∧ decode cL_law 705 = .ok (.goto 1122, 3) ∧ decode cL_law 708 = .ok (.aload_n 1, 1) ∧ decode cL_law 709 = .ok (.invokevirtual 87, 3) ∧ decode cL_law 712 = .ok (.pop, 1) ∧ decode cL_law 713 = .ok (.aload_n 2, 1) ∧ decode cL_law 714 = .ok (.invokevirtual 90, 3) := by decide +kernel
theorem dL_law_701 : decode cL_law 701 = .ok (.invokevirtual 86, 3) := dAL_law_39.1
theorem dL_law_704 : decode cL_law 704 = .ok (.pop, 1) := dAL_law_39.2.1
theorem dL_law_705 : decode cL_law 705 = .ok (.goto 1122, 3) := dAL_law_39.2.2.1
theorem dL_law_708 : decode cL_law 708 = .ok (.aload_n 1, 1) := dAL_law_39.2.2.2.1
theorem dL_law_709 : decode cL_law 709 = .ok (.invokevirtual 87, 3) := dAL_law_39.2.2.2.2.1
theorem dL_law_712 : decode cL_law 712 = .ok (.pop, 1) := dAL_law_39.2.2.2.2.2.1
theorem dL_law_713 : decode cL_law 713 = .ok (.aload_n 2, 1) := dAL_law_39.2.2.2.2.2.2.1
theorem dL_law_714 : decode cL_law 714 = .ok (.invokevirtual 90, 3) := dAL_law_39.2.2.2.2.2.2.2
set_option maxRecDepth 100000 in
theorem dAL_law_40 : decode cL_law 717 = .ok (.pop, 1) ∧ decode cL_law 718 = .ok (.goto 1109, 3) ∧ decode cL_law 721 = .ok (.aload_n 1, 1) ∧ decode cL_law 722 = .ok (.aload_n 0, 1) ∧ decode cL_law 723 = .ok (.iload 4, 2) ∧ decode cL_law 725 = .ok (.iconst 1, 1) ∧ decode cL_law 726 = .ok (.iadd, 1) ∧ decode cL_law 727 = .ok (.iaload, 1) := by decide +kernel
theorem dL_law_717 : decode cL_law 717 = .ok (.pop, 1) := dAL_law_40.1
theorem dL_law_718 : decode cL_law 718 = .ok (.goto 1109, 3) := dAL_law_40.2.1
theorem dL_law_721 : decode cL_law 721 = .ok (.aload_n 1, 1) := dAL_law_40.2.2.1
theorem dL_law_722 : decode cL_law 722 = .ok (.aload_n 0, 1) := dAL_law_40.2.2.2.1
theorem dL_law_723 : decode cL_law 723 = .ok (.iload 4, 2) := dAL_law_40.2.2.2.2.1
theorem dL_law_725 : decode cL_law 725 = .ok (.iconst 1, 1) := dAL_law_40.2.2.2.2.2.1
theorem dL_law_726 : decode cL_law 726 = .ok (.iadd, 1) := dAL_law_40.2.2.2.2.2.2.1
theorem dL_law_727 : decode cL_law 727 = .ok (.iaload, 1) := dAL_law_40.2.2.2.2.2.2.2
set_option maxRecDepth 100000 in
theorem dAL_law_41 : decode cL_law 728 = .ok (.invokevirtual 91, 3) ∧ decode cL_law 731 = .ok (.pop, 1) ∧ decode cL_law 732 = .ok (.aload_n 2, 1) ∧ decode cL_law 733 = .ok (.aload_n 0, 1) ∧ decode cL_law 734 = .ok (.iload 4, 2) ∧ decode cL_law 736 = .ok (.iconst 1, 1) ∧ decode cL_law 737 = .ok (.iadd, 1) ∧ decode cL_law 738 = .ok (.iaload, 1) := by decide +kernel
theorem dL_law_728 : decode cL_law 728 = .ok (.invokevirtual 91, 3) := dAL_law_41.1
theorem dL_law_731 : decode cL_law 731 = .ok (.pop, 1) := dAL_law_41.2.1
theorem dL_law_732 : decode cL_law 732 = .ok (.aload_n 2, 1) := dAL_law_41.2.2.1
theorem dL_law_733 : decode cL_law 733 = .ok (.aload_n 0, 1) := dAL_law_41.2.2.2.1
theorem dL_law_734 : decode cL_law 734 = .ok (.iload 4, 2) := dAL_law_41.2.2.2.2.1
theorem dL_law_736 : decode cL_law 736 = .ok (.iconst 1, 1) := dAL_law_41.2.2.2.2.2.1
theorem dL_law_737 : decode cL_law 737 = .ok (.iadd, 1) := dAL_law_41.2.2.2.2.2.2.1
theorem dL_law_738 : decode cL_law 738 = .ok (.iaload, 1) := dAL_law_41.2.2.2.2.2.2.2
set_option maxRecDepth 100000 in
theorem dAL_law_42 : decode cL_law 739 = .ok (.invokevirtual 94, 3) ∧ decode cL_law 742 = .ok (.pop, 1) ∧ decode cL_law 743 = .ok (.goto 1084, 3) ∧ decode cL_law 746 = .ok (.aload_n 1, 1) ∧ decode cL_law 747 = .ok (.aload_n 0, 1) ∧ decode cL_law 748 = .ok (.iload 4, 2) ∧ decode cL_law 750 = .ok (.iconst 1, 1) ∧ decode cL_law 751 = .ok (.iadd, 1) := by decide +kernel
theorem dL_law_739 : decode cL_law 739 = .ok (.invokevirtual 94, 3) := dAL_law_42.1
theorem dL_law_742 : decode cL_law 742 = .ok (.pop, 1) := dAL_law_42.2.1
theorem dL_law_743 : decode cL_law 743 = .ok (.goto 1084, 3) := dAL_law_42.2.2.1
theorem dL_law_746 : decode cL_law 746 = .ok (.aload_n 1, 1) := dAL_law_42.2.2.2.1
theorem dL_law_747 : decode cL_law 747 = .ok (.aload_n 0, 1) := dAL_law_42.2.2.2.2.1
theorem dL_law_748 : decode cL_law 748 = .ok (.iload 4, 2) := dAL_law_42.2.2.2.2.2.1
theorem dL_law_750 : decode cL_law 750 = .ok (.iconst 1, 1) := dAL_law_42.2.2.2.2.2.2.1
theorem dL_law_751 : decode cL_law 751 = .ok (.iadd, 1) := dAL_law_42.2.2.2.2.2.2.2
set_option maxRecDepth 100000 in
theorem dAL_law_43 : decode cL_law 752 = .ok (.iaload, 1) ∧ decode cL_law 753 = .ok (.aload_n 0, 1) ∧ decode cL_law 754 = .ok (.iload 4, 2) ∧ decode cL_law 756 = .ok (.iconst 2, 1) ∧ decode cL_law 757 = .ok (.iadd, 1) ∧ decode cL_law 758 = .ok (.iaload, 1) ∧ decode cL_law 759 = .ok (.invokevirtual 95, 3) ∧ decode cL_law 762 = .ok (.pop, 1) := by decide +kernel
theorem dL_law_752 : decode cL_law 752 = .ok (.iaload, 1) := dAL_law_43.1
theorem dL_law_753 : decode cL_law 753 = .ok (.aload_n 0, 1) := dAL_law_43.2.1
theorem dL_law_754 : decode cL_law 754 = .ok (.iload 4, 2) := dAL_law_43.2.2.1
theorem dL_law_756 : decode cL_law 756 = .ok (.iconst 2, 1) := dAL_law_43.2.2.2.1
theorem dL_law_757 : decode cL_law 757 = .ok (.iadd, 1) := dAL_law_43.2.2.2.2.1
theorem dL_law_758 : decode cL_law 758 = .ok (.iaload, 1) := dAL_law_43.2.2.2.2.2.1
theorem dL_law_759 : decode cL_law 759 = .ok (.invokevirtual 95, 3) := dAL_law_43.2.2.2.2.2.2.1
theorem dL_law_762 : decode cL_law 762 = .ok (.pop, 1) := dAL_law_43.2.2.2.2.2.2.2
set_option maxRecDepth 100000 in
theorem dAL_law_44 : decode cL_law 763 = .ok (.aload_n 2, 1) ∧ decode cL_law 764 = .ok (.aload_n 0, 1) ∧ decode cL_law 765 = .ok (.iload 4, 2) ∧ decode cL_law 767 = .ok (.iconst 1, 1) ∧ decode cL_law 768 = .ok (.iadd, 1) ∧ decode cL_law 769 = .ok (.iaload, 1) ∧ decode cL_law 770 = .ok (.aload_n 0, 1) ∧ decode cL_law 771 = .ok (.iload 4, 2) := by decide +kernel
theorem dL_law_763 : decode cL_law 763 = .ok (.aload_n 2, 1) := dAL_law_44.1
theorem dL_law_764 : decode cL_law 764 = .ok (.aload_n 0, 1) := dAL_law_44.2.1
theorem dL_law_765 : decode cL_law 765 = .ok (.iload 4, 2) := dAL_law_44.2.2.1
theorem dL_law_767 : decode cL_law 767 = .ok (.iconst 1, 1) := dAL_law_44.2.2.2.1
theorem dL_law_768 : decode cL_law 768 = .ok (.iadd, 1) := dAL_law_44.2.2.2.2.1
theorem dL_law_769 : decode cL_law 769 = .ok (.iaload, 1) := dAL_law_44.2.2.2.2.2.1
theorem dL_law_770 : decode cL_law 770 = .ok (.aload_n 0, 1) := dAL_law_44.2.2.2.2.2.2.1
theorem dL_law_771 : decode cL_law 771 = .ok (.iload 4, 2) := dAL_law_44.2.2.2.2.2.2.2
set_option maxRecDepth 100000 in
theorem dAL_law_45 : decode cL_law 773 = .ok (.iconst 2, 1) ∧ decode cL_law 774 = .ok (.iadd, 1) ∧ decode cL_law 775 = .ok (.iaload, 1) ∧ decode cL_law 776 = .ok (.invokevirtual 98, 3) ∧ decode cL_law 779 = .ok (.pop, 1) ∧ decode cL_law 780 = .ok (.goto 1047, 3) ∧ decode cL_law 783 = .ok (.aload_n 1, 1) ∧ decode cL_law 784 = .ok (.aload_n 0, 1) := by decide +kernel
theorem dL_law_773 : decode cL_law 773 = .ok (.iconst 2, 1) := dAL_law_45.1
theorem dL_law_774 : decode cL_law 774 = .ok (.iadd, 1) := dAL_law_45.2.1
theorem dL_law_775 : decode cL_law 775 = .ok (.iaload, 1) := dAL_law_45.2.2.1
theorem dL_law_776 : decode cL_law 776 = .ok (.invokevirtual 98, 3) := dAL_law_45.2.2.2.1
theorem dL_law_779 : decode cL_law 779 = .ok (.pop, 1) := dAL_law_45.2.2.2.2.1
theorem dL_law_780 : decode cL_law 780 = .ok (.goto 1047, 3) := dAL_law_45.2.2.2.2.2.1
theorem dL_law_783 : decode cL_law 783 = .ok (.aload_n 1, 1) := dAL_law_45.2.2.2.2.2.2.1
theorem dL_law_784 : decode cL_law 784 = .ok (.aload_n 0, 1) := dAL_law_45.2.2.2.2.2.2.2
set_option maxRecDepth 100000 in
theorem dAL_law_46 : decode cL_law 785 = .ok (.iload 4, 2) ∧ decode cL_law 787 = .ok (.iconst 1, 1) ∧ decode cL_law 788 = .ok (.iadd, 1) ∧ decode cL_law 789 = .ok (.iaload, 1) ∧ decode cL_law 790 = .ok (.aload_n 0, 1) ∧ decode cL_law 791 = .ok (.iload 4, 2) ∧ decode cL_law 793 = .ok (.iconst 2, 1) ∧ decode cL_law 794 = .ok (.iadd, 1) := by decide +kernel
theorem dL_law_785 : decode cL_law 785 = .ok (.iload 4, 2) := dAL_law_46.1
theorem dL_law_787 : decode cL_law 787 = .ok (.iconst 1, 1) := dAL_law_46.2.1
theorem dL_law_788 : decode cL_law 788 = .ok (.iadd, 1) := dAL_law_46.2.2.1
theorem dL_law_789 : decode cL_law 789 = .ok (.iaload, 1) := dAL_law_46.2.2.2.1
theorem dL_law_790 : decode cL_law 790 = .ok (.aload_n 0, 1) := dAL_law_46.2.2.2.2.1
theorem dL_law_791 : decode cL_law 791 = .ok (.iload 4, 2) := dAL_law_46.2.2.2.2.2.1
theorem dL_law_793 : decode cL_law 793 = .ok (.iconst 2, 1) := dAL_law_46.2.2.2.2.2.2.1
theorem dL_law_794 : decode cL_law 794 = .ok (.iadd, 1) := dAL_law_46.2.2.2.2.2.2.2
set_option maxRecDepth 100000 in
theorem dAL_law_47 : decode cL_law 795 = .ok (.iaload, 1) ∧ decode cL_law 796 = .ok (.aload_n 0, 1) ∧ decode cL_law 797 = .ok (.iload 4, 2) ∧ decode cL_law 799 = .ok (.iconst 3, 1) ∧ decode cL_law 800 = .ok (.iadd, 1) ∧ decode cL_law 801 = .ok (.iaload, 1) ∧ decode cL_law 802 = .ok (.ifCond .eq 7, 3) ∧ decode cL_law 805 = .ok (.iconst 1, 1) := by decide +kernel
theorem dL_law_795 : decode cL_law 795 = .ok (.iaload, 1) := dAL_law_47.1
theorem dL_law_796 : decode cL_law 796 = .ok (.aload_n 0, 1) := dAL_law_47.2.1
theorem dL_law_797 : decode cL_law 797 = .ok (.iload 4, 2) := dAL_law_47.2.2.1
theorem dL_law_799 : decode cL_law 799 = .ok (.iconst 3, 1) := dAL_law_47.2.2.2.1
theorem dL_law_800 : decode cL_law 800 = .ok (.iadd, 1) := dAL_law_47.2.2.2.2.1
theorem dL_law_801 : decode cL_law 801 = .ok (.iaload, 1) := dAL_law_47.2.2.2.2.2.1
theorem dL_law_802 : decode cL_law 802 = .ok (.ifCond .eq 7, 3) := dAL_law_47.2.2.2.2.2.2.1
theorem dL_law_805 : decode cL_law 805 = .ok (.iconst 1, 1) := dAL_law_47.2.2.2.2.2.2.2
set_option maxRecDepth 100000 in
theorem dAL_law_48 : decode cL_law 806 = .ok (.goto 4, 3) ∧ decode cL_law 809 = .ok (.iconst 0, 1) ∧ decode cL_law 810 = .ok (.invokevirtual 99, 3) ∧ decode cL_law 813 = .ok (.pop2, 1) ∧ decode cL_law 814 = .ok (.aload_n 2, 1) ∧ decode cL_law 815 = .ok (.aload_n 0, 1) ∧ decode cL_law 816 = .ok (.iload 4, 2) ∧ decode cL_law 818 = .ok (.iconst 1, 1) := by decide +kernel
theorem dL_law_806 : decode cL_law 806 = .ok (.goto 4, 3) := dAL_law_48.1
theorem dL_law_809 : decode cL_law 809 = .ok (.iconst 0, 1) := dAL_law_48.2.1
theorem dL_law_810 : decode cL_law 810 = .ok (.invokevirtual 99, 3) := dAL_law_48.2.2.1
theorem dL_law_813 : decode cL_law 813 = .ok (.pop2, 1) := dAL_law_48.2.2.2.1
theorem dL_law_814 : decode cL_law 814 = .ok (.aload_n 2, 1) := dAL_law_48.2.2.2.2.1
theorem dL_law_815 : decode cL_law 815 = .ok (.aload_n 0, 1) := dAL_law_48.2.2.2.2.2.1
theorem dL_law_816 : decode cL_law 816 = .ok (.iload 4, 2) := dAL_law_48.2.2.2.2.2.2.1
theorem dL_law_818 : decode cL_law 818 = .ok (.iconst 1, 1) := dAL_law_48.2.2.2.2.2.2.2
set_option maxRecDepth 100000 in
theorem dAL_law_49 : decode cL_law 819 = .ok (.iadd, 1) ∧ decode cL_law 820 = .ok (.iaload, 1) ∧ decode cL_law 821 = .ok (.aload_n 0, 1) ∧ decode cL_law 822 = .ok (.iload 4, 2) ∧ decode cL_law 824 = .ok (.iconst 2, 1) ∧ decode cL_law 825 = .ok (.iadd, 1) ∧ decode cL_law 826 = .ok (.iaload, 1) ∧ decode cL_law 827 = .ok (.aload_n 0, 1) := by decide +kernel
theorem dL_law_819 : decode cL_law 819 = .ok (.iadd, 1) := dAL_law_49.1
theorem dL_law_820 : decode cL_law 820 = .ok (.iaload, 1) := dAL_law_49.2.1
theorem dL_law_821 : decode cL_law 821 = .ok (.aload_n 0, 1) := dAL_law_49.2.2.1
theorem dL_law_822 : decode cL_law 822 = .ok (.iload 4, 2) := dAL_law_49.2.2.2.1
theorem dL_law_824 : decode cL_law 824 = .ok (.iconst 2, 1) := dAL_law_49.2.2.2.2.1
theorem dL_law_825 : decode cL_law 825 = .ok (.iadd, 1) := dAL_law_49.2.2.2.2.2.1
theorem dL_law_826 : decode cL_law 826 = .ok (.iaload, 1) := dAL_law_49.2.2.2.2.2.2.1
theorem dL_law_827 : decode cL_law 827 = .ok (.aload_n 0, 1) := dAL_law_49.2.2.2.2.2.2.2
set_option maxRecDepth 100000 in
theorem dAL_law_50 : decode cL_law 828 = .ok (.iload 4, 2) ∧ decode cL_law 830 = .ok (.iconst 3, 1) ∧ decode cL_law 831 = .ok (.iadd, 1) ∧ decode cL_law 832 = .ok (.iaload, 1) ∧ decode cL_law 833 = .ok (.ifCond .eq 7, 3) ∧ decode cL_law 836 = .ok (.iconst 1, 1) ∧ decode cL_law 837 = .ok (.goto 4, 3) ∧ decode cL_law 840 = .ok (.iconst 0, 1) := by decide +kernel
theorem dL_law_828 : decode cL_law 828 = .ok (.iload 4, 2) := dAL_law_50.1
theorem dL_law_830 : decode cL_law 830 = .ok (.iconst 3, 1) := dAL_law_50.2.1
theorem dL_law_831 : decode cL_law 831 = .ok (.iadd, 1) := dAL_law_50.2.2.1
theorem dL_law_832 : decode cL_law 832 = .ok (.iaload, 1) := dAL_law_50.2.2.2.1
theorem dL_law_833 : decode cL_law 833 = .ok (.ifCond .eq 7, 3) := dAL_law_50.2.2.2.2.1
theorem dL_law_836 : decode cL_law 836 = .ok (.iconst 1, 1) := dAL_law_50.2.2.2.2.2.1
theorem dL_law_837 : decode cL_law 837 = .ok (.goto 4, 3) := dAL_law_50.2.2.2.2.2.2.1
theorem dL_law_840 : decode cL_law 840 = .ok (.iconst 0, 1) := dAL_law_50.2.2.2.2.2.2.2
set_option maxRecDepth 100000 in
theorem dAL_law_51 : decode cL_law 841 = .ok (.invokevirtual 103, 3) ∧ decode cL_law 844 = .ok (.pop2, 1) ∧ decode cL_law 845 = .ok (.goto 982, 3) ∧ decode cL_law 848 = .ok (.aload_n 1, 1) ∧ decode cL_law 849 = .ok (.aload_n 0, 1) ∧ decode cL_law 850 = .ok (.iload 4, 2) ∧ decode cL_law 852 = .ok (.iconst 1, 1) ∧ decode cL_law 853 = .ok (.iadd, 1) := by decide +kernel
theorem dL_law_841 : decode cL_law 841 = .ok (.invokevirtual 103, 3) := dAL_law_51.1
theorem dL_law_844 : decode cL_law 844 = .ok (.pop2, 1) := dAL_law_51.2.1
theorem dL_law_845 : decode cL_law 845 = .ok (.goto 982, 3) := dAL_law_51.2.2.1
theorem dL_law_848 : decode cL_law 848 = .ok (.aload_n 1, 1) := dAL_law_51.2.2.2.1
theorem dL_law_849 : decode cL_law 849 = .ok (.aload_n 0, 1) := dAL_law_51.2.2.2.2.1
theorem dL_law_850 : decode cL_law 850 = .ok (.iload 4, 2) := dAL_law_51.2.2.2.2.2.1
theorem dL_law_852 : decode cL_law 852 = .ok (.iconst 1, 1) := dAL_law_51.2.2.2.2.2.2.1
theorem dL_law_853 : decode cL_law 853 = .ok (.iadd, 1) := dAL_law_51.2.2.2.2.2.2.2
set_option maxRecDepth 100000 in
theorem dAL_law_52 : decode cL_law 854 = .ok (.iaload, 1) ∧ decode cL_law 855 = .ok (.invokevirtual 104, 3) ∧ decode cL_law 858 = .ok (.pop, 1) ∧ decode cL_law 859 = .ok (.aload_n 2, 1) ∧ decode cL_law 860 = .ok (.aload_n 0, 1) ∧ decode cL_law 861 = .ok (.iload 4, 2) ∧ decode cL_law 863 = .ok (.iconst 1, 1) ∧ decode cL_law 864 = .ok (.iadd, 1) := by decide +kernel
theorem dL_law_854 : decode cL_law 854 = .ok (.iaload, 1) := dAL_law_52.1
theorem dL_law_855 : decode cL_law 855 = .ok (.invokevirtual 104, 3) := dAL_law_52.2.1
theorem dL_law_858 : decode cL_law 858 = .ok (.pop, 1) := dAL_law_52.2.2.1
theorem dL_law_859 : decode cL_law 859 = .ok (.aload_n 2, 1) := dAL_law_52.2.2.2.1
theorem dL_law_860 : decode cL_law 860 = .ok (.aload_n 0, 1) := dAL_law_52.2.2.2.2.1
theorem dL_law_861 : decode cL_law 861 = .ok (.iload 4, 2) := dAL_law_52.2.2.2.2.2.1
theorem dL_law_863 : decode cL_law 863 = .ok (.iconst 1, 1) := dAL_law_52.2.2.2.2.2.2.1
theorem dL_law_864 : decode cL_law 864 = .ok (.iadd, 1) := dAL_law_52.2.2.2.2.2.2.2
set_option maxRecDepth 100000 in
theorem dAL_law_53 : decode cL_law 865 = .ok (.iaload, 1) ∧ decode cL_law 866 = .ok (.invokevirtual 107, 3) ∧ decode cL_law 869 = .ok (.pop, 1) ∧ decode cL_law 870 = .ok (.goto 957, 3) ∧ decode cL_law 873 = .ok (.aload_n 1, 1) ∧ decode cL_law 874 = .ok (.aload_n 0, 1) ∧ decode cL_law 875 = .ok (.iload 4, 2) ∧ decode cL_law 877 = .ok (.iconst 1, 1) := by decide +kernel
theorem dL_law_865 : decode cL_law 865 = .ok (.iaload, 1) := dAL_law_53.1
theorem dL_law_866 : decode cL_law 866 = .ok (.invokevirtual 107, 3) := dAL_law_53.2.1
theorem dL_law_869 : decode cL_law 869 = .ok (.pop, 1) := dAL_law_53.2.2.1
theorem dL_law_870 : decode cL_law 870 = .ok (.goto 957, 3) := dAL_law_53.2.2.2.1
theorem dL_law_873 : decode cL_law 873 = .ok (.aload_n 1, 1) := dAL_law_53.2.2.2.2.1
theorem dL_law_874 : decode cL_law 874 = .ok (.aload_n 0, 1) := dAL_law_53.2.2.2.2.2.1
theorem dL_law_875 : decode cL_law 875 = .ok (.iload 4, 2) := dAL_law_53.2.2.2.2.2.2.1
theorem dL_law_877 : decode cL_law 877 = .ok (.iconst 1, 1) := dAL_law_53.2.2.2.2.2.2.2
set_option maxRecDepth 100000 in
theorem dAL_law_54 : decode cL_law 878 = .ok (.iadd, 1) ∧ decode cL_law 879 = .ok (.iaload, 1) ∧ decode cL_law 880 = .ok (.invokevirtual 108, 3) ∧ decode cL_law 883 = .ok (.pop, 1) ∧ decode cL_law 884 = .ok (.aload_n 2, 1) ∧ decode cL_law 885 = .ok (.aload_n 0, 1) ∧ decode cL_law 886 = .ok (.iload 4, 2) ∧ decode cL_law 888 = .ok (.iconst 1, 1) := by decide +kernel
theorem dL_law_878 : decode cL_law 878 = .ok (.iadd, 1) := dAL_law_54.1
theorem dL_law_879 : decode cL_law 879 = .ok (.iaload, 1) := dAL_law_54.2.1
theorem dL_law_880 : decode cL_law 880 = .ok (.invokevirtual 108, 3) := dAL_law_54.2.2.1
theorem dL_law_883 : decode cL_law 883 = .ok (.pop, 1) := dAL_law_54.2.2.2.1
theorem dL_law_884 : decode cL_law 884 = .ok (.aload_n 2, 1) := dAL_law_54.2.2.2.2.1
theorem dL_law_885 : decode cL_law 885 = .ok (.aload_n 0, 1) := dAL_law_54.2.2.2.2.2.1
theorem dL_law_886 : decode cL_law 886 = .ok (.iload 4, 2) := dAL_law_54.2.2.2.2.2.2.1
theorem dL_law_888 : decode cL_law 888 = .ok (.iconst 1, 1) := dAL_law_54.2.2.2.2.2.2.2
set_option maxRecDepth 100000 in
theorem dAL_law_55 : decode cL_law 889 = .ok (.iadd, 1) ∧ decode cL_law 890 = .ok (.iaload, 1) ∧ decode cL_law 891 = .ok (.invokevirtual 111, 3) ∧ decode cL_law 894 = .ok (.pop, 1) ∧ decode cL_law 895 = .ok (.goto 932, 3) ∧ decode cL_law 898 = .ok (.aload_n 1, 1) ∧ decode cL_law 899 = .ok (.invokevirtual 112, 3) ∧ decode cL_law 902 = .ok (.pop, 1) := by decide +kernel
theorem dL_law_889 : decode cL_law 889 = .ok (.iadd, 1) := dAL_law_55.1
theorem dL_law_890 : decode cL_law 890 = .ok (.iaload, 1) := dAL_law_55.2.1
theorem dL_law_891 : decode cL_law 891 = .ok (.invokevirtual 111, 3) := dAL_law_55.2.2.1
theorem dL_law_894 : decode cL_law 894 = .ok (.pop, 1) := dAL_law_55.2.2.2.1
theorem dL_law_895 : decode cL_law 895 = .ok (.goto 932, 3) := dAL_law_55.2.2.2.2.1
theorem dL_law_898 : decode cL_law 898 = .ok (.aload_n 1, 1) := dAL_law_55.2.2.2.2.2.1
theorem dL_law_899 : decode cL_law 899 = .ok (.invokevirtual 112, 3) := dAL_law_55.2.2.2.2.2.2.1
theorem dL_law_902 : decode cL_law 902 = .ok (.pop, 1) := dAL_law_55.2.2.2.2.2.2.2
set_option maxRecDepth 100000 in
theorem dAL_law_56 : decode cL_law 903 = .ok (.aload_n 2, 1) ∧ decode cL_law 904 = .ok (.invokevirtual 115, 3) ∧ decode cL_law 907 = .ok (.pop, 1) ∧ decode cL_law 908 = .ok (.goto 919, 3) ∧ decode cL_law 911 = .ok (.aload_n 1, 1) ∧ decode cL_law 912 = .ok (.invokevirtual 116, 3) ∧ decode cL_law 915 = .ok (.pop, 1) ∧ decode cL_law 916 = .ok (.aload_n 2, 1) := by decide +kernel
theorem dL_law_903 : decode cL_law 903 = .ok (.aload_n 2, 1) := dAL_law_56.1
theorem dL_law_904 : decode cL_law 904 = .ok (.invokevirtual 115, 3) := dAL_law_56.2.1
theorem dL_law_907 : decode cL_law 907 = .ok (.pop, 1) := dAL_law_56.2.2.1
theorem dL_law_908 : decode cL_law 908 = .ok (.goto 919, 3) := dAL_law_56.2.2.2.1
theorem dL_law_911 : decode cL_law 911 = .ok (.aload_n 1, 1) := dAL_law_56.2.2.2.2.1
theorem dL_law_912 : decode cL_law 912 = .ok (.invokevirtual 116, 3) := dAL_law_56.2.2.2.2.2.1
theorem dL_law_915 : decode cL_law 915 = .ok (.pop, 1) := dAL_law_56.2.2.2.2.2.2.1
theorem dL_law_916 : decode cL_law 916 = .ok (.aload_n 2, 1) := dAL_law_56.2.2.2.2.2.2.2
set_option maxRecDepth 100000 in
theorem dAL_law_57 : decode cL_law 917 = .ok (.invokevirtual 119, 3) ∧ decode cL_law 920 = .ok (.pop, 1) ∧ decode cL_law 921 = .ok (.goto 906, 3) ∧ decode cL_law 924 = .ok (.aload_n 1, 1) ∧ decode cL_law 925 = .ok (.aload_n 0, 1) ∧ decode cL_law 926 = .ok (.iload 4, 2) ∧ decode cL_law 928 = .ok (.iconst 1, 1) ∧ decode cL_law 929 = .ok (.iadd, 1) := by decide +kernel
theorem dL_law_917 : decode cL_law 917 = .ok (.invokevirtual 119, 3) := dAL_law_57.1
theorem dL_law_920 : decode cL_law 920 = .ok (.pop, 1) := dAL_law_57.2.1
theorem dL_law_921 : decode cL_law 921 = .ok (.goto 906, 3) := dAL_law_57.2.2.1
theorem dL_law_924 : decode cL_law 924 = .ok (.aload_n 1, 1) := dAL_law_57.2.2.2.1
theorem dL_law_925 : decode cL_law 925 = .ok (.aload_n 0, 1) := dAL_law_57.2.2.2.2.1
theorem dL_law_926 : decode cL_law 926 = .ok (.iload 4, 2) := dAL_law_57.2.2.2.2.2.1
theorem dL_law_928 : decode cL_law 928 = .ok (.iconst 1, 1) := dAL_law_57.2.2.2.2.2.2.1
theorem dL_law_929 : decode cL_law 929 = .ok (.iadd, 1) := dAL_law_57.2.2.2.2.2.2.2
set_option maxRecDepth 100000 in
theorem dAL_law_58 : decode cL_law 930 = .ok (.iaload, 1) ∧ decode cL_law 931 = .ok (.invokevirtual 120, 3) ∧ decode cL_law 934 = .ok (.pop, 1) ∧ decode cL_law 935 = .ok (.aload_n 2, 1) ∧ decode cL_law 936 = .ok (.aload_n 0, 1) ∧ decode cL_law 937 = .ok (.iload 4, 2) ∧ decode cL_law 939 = .ok (.iconst 1, 1) ∧ decode cL_law 940 = .ok (.iadd, 1) := by decide +kernel
theorem dL_law_930 : decode cL_law 930 = .ok (.iaload, 1) := dAL_law_58.1
theorem dL_law_931 : decode cL_law 931 = .ok (.invokevirtual 120, 3) := dAL_law_58.2.1
theorem dL_law_934 : decode cL_law 934 = .ok (.pop, 1) := dAL_law_58.2.2.1
theorem dL_law_935 : decode cL_law 935 = .ok (.aload_n 2, 1) := dAL_law_58.2.2.2.1
theorem dL_law_936 : decode cL_law 936 = .ok (.aload_n 0, 1) := dAL_law_58.2.2.2.2.1
theorem dL_law_937 : decode cL_law 937 = .ok (.iload 4, 2) := dAL_law_58.2.2.2.2.2.1
theorem dL_law_939 : decode cL_law 939 = .ok (.iconst 1, 1) := dAL_law_58.2.2.2.2.2.2.1
theorem dL_law_940 : decode cL_law 940 = .ok (.iadd, 1) := dAL_law_58.2.2.2.2.2.2.2
set_option maxRecDepth 100000 in
theorem dAL_law_59 : decode cL_law 941 = .ok (.iaload, 1) ∧ decode cL_law 942 = .ok (.invokevirtual 123, 3) ∧ decode cL_law 945 = .ok (.pop, 1) ∧ decode cL_law 946 = .ok (.goto 881, 3) ∧ decode cL_law 949 = .ok (.aload_n 1, 1) ∧ decode cL_law 950 = .ok (.aload_n 0, 1) ∧ decode cL_law 951 = .ok (.iload 4, 2) ∧ decode cL_law 953 = .ok (.iconst 1, 1) := by decide +kernel
theorem dL_law_941 : decode cL_law 941 = .ok (.iaload, 1) := dAL_law_59.1
theorem dL_law_942 : decode cL_law 942 = .ok (.invokevirtual 123, 3) := dAL_law_59.2.1
theorem dL_law_945 : decode cL_law 945 = .ok (.pop, 1) := dAL_law_59.2.2.1
theorem dL_law_946 : decode cL_law 946 = .ok (.goto 881, 3) := dAL_law_59.2.2.2.1
theorem dL_law_949 : decode cL_law 949 = .ok (.aload_n 1, 1) := dAL_law_59.2.2.2.2.1
theorem dL_law_950 : decode cL_law 950 = .ok (.aload_n 0, 1) := dAL_law_59.2.2.2.2.2.1
theorem dL_law_951 : decode cL_law 951 = .ok (.iload 4, 2) := dAL_law_59.2.2.2.2.2.2.1
theorem dL_law_953 : decode cL_law 953 = .ok (.iconst 1, 1) := dAL_law_59.2.2.2.2.2.2.2
set_option maxRecDepth 100000 in
theorem dAL_law_60 : decode cL_law 954 = .ok (.iadd, 1) ∧ decode cL_law 955 = .ok (.iaload, 1) ∧ decode cL_law 956 = .ok (.invokevirtual 124, 3) ∧ decode cL_law 959 = .ok (.pop, 1) ∧ decode cL_law 960 = .ok (.aload_n 2, 1) ∧ decode cL_law 961 = .ok (.aload_n 0, 1) ∧ decode cL_law 962 = .ok (.iload 4, 2) ∧ decode cL_law 964 = .ok (.iconst 1, 1) := by decide +kernel
theorem dL_law_954 : decode cL_law 954 = .ok (.iadd, 1) := dAL_law_60.1
theorem dL_law_955 : decode cL_law 955 = .ok (.iaload, 1) := dAL_law_60.2.1
theorem dL_law_956 : decode cL_law 956 = .ok (.invokevirtual 124, 3) := dAL_law_60.2.2.1
theorem dL_law_959 : decode cL_law 959 = .ok (.pop, 1) := dAL_law_60.2.2.2.1
theorem dL_law_960 : decode cL_law 960 = .ok (.aload_n 2, 1) := dAL_law_60.2.2.2.2.1
theorem dL_law_961 : decode cL_law 961 = .ok (.aload_n 0, 1) := dAL_law_60.2.2.2.2.2.1
theorem dL_law_962 : decode cL_law 962 = .ok (.iload 4, 2) := dAL_law_60.2.2.2.2.2.2.1
theorem dL_law_964 : decode cL_law 964 = .ok (.iconst 1, 1) := dAL_law_60.2.2.2.2.2.2.2
set_option maxRecDepth 100000 in
theorem dAL_law_61 : decode cL_law 965 = .ok (.iadd, 1) ∧ decode cL_law 966 = .ok (.iaload, 1) ∧ decode cL_law 967 = .ok (.invokevirtual 127, 3) ∧ decode cL_law 970 = .ok (.pop, 1) ∧ decode cL_law 971 = .ok (.goto 856, 3) ∧ decode cL_law 974 = .ok (.aload_n 1, 1) ∧ decode cL_law 975 = .ok (.invokevirtual 128, 3) ∧ decode cL_law 978 = .ok (.pop, 1) := by decide +kernel
theorem dL_law_965 : decode cL_law 965 = .ok (.iadd, 1) := dAL_law_61.1
theorem dL_law_966 : decode cL_law 966 = .ok (.iaload, 1) := dAL_law_61.2.1
theorem dL_law_967 : decode cL_law 967 = .ok (.invokevirtual 127, 3) := dAL_law_61.2.2.1
theorem dL_law_970 : decode cL_law 970 = .ok (.pop, 1) := dAL_law_61.2.2.2.1
theorem dL_law_971 : decode cL_law 971 = .ok (.goto 856, 3) := dAL_law_61.2.2.2.2.1
theorem dL_law_974 : decode cL_law 974 = .ok (.aload_n 1, 1) := dAL_law_61.2.2.2.2.2.1
theorem dL_law_975 : decode cL_law 975 = .ok (.invokevirtual 128, 3) := dAL_law_61.2.2.2.2.2.2.1
theorem dL_law_978 : decode cL_law 978 = .ok (.pop, 1) := dAL_law_61.2.2.2.2.2.2.2
set_option maxRecDepth 100000 in
theorem dAL_law_62 : decode cL_law 979 = .ok (.aload_n 2, 1) ∧ decode cL_law 980 = .ok (.invokevirtual 131, 3) ∧ decode cL_law 983 = .ok (.pop, 1) ∧ decode cL_law 984 = .ok (.goto 843, 3) ∧ decode cL_law 987 = .ok (.aload_n 1, 1) ∧ decode cL_law 988 = .ok (.aload_n 0, 1) ∧ decode cL_law 989 = .ok (.iload 4, 2) ∧ decode cL_law 991 = .ok (.iconst 1, 1) := by decide +kernel
theorem dL_law_979 : decode cL_law 979 = .ok (.aload_n 2, 1) := dAL_law_62.1
theorem dL_law_980 : decode cL_law 980 = .ok (.invokevirtual 131, 3) := dAL_law_62.2.1
theorem dL_law_983 : decode cL_law 983 = .ok (.pop, 1) := dAL_law_62.2.2.1
theorem dL_law_984 : decode cL_law 984 = .ok (.goto 843, 3) := dAL_law_62.2.2.2.1
theorem dL_law_987 : decode cL_law 987 = .ok (.aload_n 1, 1) := dAL_law_62.2.2.2.2.1
theorem dL_law_988 : decode cL_law 988 = .ok (.aload_n 0, 1) := dAL_law_62.2.2.2.2.2.1
theorem dL_law_989 : decode cL_law 989 = .ok (.iload 4, 2) := dAL_law_62.2.2.2.2.2.2.1
theorem dL_law_991 : decode cL_law 991 = .ok (.iconst 1, 1) := dAL_law_62.2.2.2.2.2.2.2
set_option maxRecDepth 100000 in
theorem dAL_law_63 : decode cL_law 992 = .ok (.iadd, 1) ∧ decode cL_law 993 = .ok (.iaload, 1) ∧ decode cL_law 994 = .ok (.invokevirtual 132, 3) ∧ decode cL_law 997 = .ok (.pop, 1) ∧ decode cL_law 998 = .ok (.aload_n 2, 1) ∧ decode cL_law 999 = .ok (.aload_n 0, 1) ∧ decode cL_law 1000 = .ok (.iload 4, 2) ∧ decode cL_law 1002 = .ok (.iconst 1, 1) := by decide +kernel
theorem dL_law_992 : decode cL_law 992 = .ok (.iadd, 1) := dAL_law_63.1
theorem dL_law_993 : decode cL_law 993 = .ok (.iaload, 1) := dAL_law_63.2.1
theorem dL_law_994 : decode cL_law 994 = .ok (.invokevirtual 132, 3) := dAL_law_63.2.2.1
theorem dL_law_997 : decode cL_law 997 = .ok (.pop, 1) := dAL_law_63.2.2.2.1
theorem dL_law_998 : decode cL_law 998 = .ok (.aload_n 2, 1) := dAL_law_63.2.2.2.2.1
theorem dL_law_999 : decode cL_law 999 = .ok (.aload_n 0, 1) := dAL_law_63.2.2.2.2.2.1
theorem dL_law_1000 : decode cL_law 1000 = .ok (.iload 4, 2) := dAL_law_63.2.2.2.2.2.2.1
theorem dL_law_1002 : decode cL_law 1002 = .ok (.iconst 1, 1) := dAL_law_63.2.2.2.2.2.2.2
set_option maxRecDepth 100000 in
theorem dAL_law_64 : decode cL_law 1003 = .ok (.iadd, 1) ∧ decode cL_law 1004 = .ok (.iaload, 1) ∧ decode cL_law 1005 = .ok (.invokevirtual 135, 3) ∧ decode cL_law 1008 = .ok (.pop, 1) ∧ decode cL_law 1009 = .ok (.goto 818, 3) ∧ decode cL_law 1012 = .ok (.aload_n 1, 1) ∧ decode cL_law 1013 = .ok (.aload_n 0, 1) ∧ decode cL_law 1014 = .ok (.iload 4, 2) := by decide +kernel
theorem dL_law_1003 : decode cL_law 1003 = .ok (.iadd, 1) := dAL_law_64.1
theorem dL_law_1004 : decode cL_law 1004 = .ok (.iaload, 1) := dAL_law_64.2.1
theorem dL_law_1005 : decode cL_law 1005 = .ok (.invokevirtual 135, 3) := dAL_law_64.2.2.1
theorem dL_law_1008 : decode cL_law 1008 = .ok (.pop, 1) := dAL_law_64.2.2.2.1
theorem dL_law_1009 : decode cL_law 1009 = .ok (.goto 818, 3) := dAL_law_64.2.2.2.2.1
theorem dL_law_1012 : decode cL_law 1012 = .ok (.aload_n 1, 1) := dAL_law_64.2.2.2.2.2.1
theorem dL_law_1013 : decode cL_law 1013 = .ok (.aload_n 0, 1) := dAL_law_64.2.2.2.2.2.2.1
theorem dL_law_1014 : decode cL_law 1014 = .ok (.iload 4, 2) := dAL_law_64.2.2.2.2.2.2.2
set_option maxRecDepth 100000 in
theorem dAL_law_65 : decode cL_law 1016 = .ok (.iconst 1, 1) ∧ decode cL_law 1017 = .ok (.iadd, 1) ∧ decode cL_law 1018 = .ok (.iaload, 1) ∧ decode cL_law 1019 = .ok (.invokevirtual 136, 3) ∧ decode cL_law 1022 = .ok (.pop, 1) ∧ decode cL_law 1023 = .ok (.aload_n 2, 1) ∧ decode cL_law 1024 = .ok (.aload_n 0, 1) ∧ decode cL_law 1025 = .ok (.iload 4, 2) := by decide +kernel
theorem dL_law_1016 : decode cL_law 1016 = .ok (.iconst 1, 1) := dAL_law_65.1
theorem dL_law_1017 : decode cL_law 1017 = .ok (.iadd, 1) := dAL_law_65.2.1
theorem dL_law_1018 : decode cL_law 1018 = .ok (.iaload, 1) := dAL_law_65.2.2.1
theorem dL_law_1019 : decode cL_law 1019 = .ok (.invokevirtual 136, 3) := dAL_law_65.2.2.2.1
theorem dL_law_1022 : decode cL_law 1022 = .ok (.pop, 1) := dAL_law_65.2.2.2.2.1
theorem dL_law_1023 : decode cL_law 1023 = .ok (.aload_n 2, 1) := dAL_law_65.2.2.2.2.2.1
theorem dL_law_1024 : decode cL_law 1024 = .ok (.aload_n 0, 1) := dAL_law_65.2.2.2.2.2.2.1
theorem dL_law_1025 : decode cL_law 1025 = .ok (.iload 4, 2) := dAL_law_65.2.2.2.2.2.2.2
set_option maxRecDepth 100000 in
theorem dAL_law_66 : decode cL_law 1027 = .ok (.iconst 1, 1) ∧ decode cL_law 1028 = .ok (.iadd, 1) ∧ decode cL_law 1029 = .ok (.iaload, 1) ∧ decode cL_law 1030 = .ok (.invokevirtual 139, 3) ∧ decode cL_law 1033 = .ok (.pop, 1) ∧ decode cL_law 1034 = .ok (.goto 793, 3) ∧ decode cL_law 1037 = .ok (.aload_n 1, 1) ∧ decode cL_law 1038 = .ok (.aload_n 0, 1) := by decide +kernel
theorem dL_law_1027 : decode cL_law 1027 = .ok (.iconst 1, 1) := dAL_law_66.1
theorem dL_law_1028 : decode cL_law 1028 = .ok (.iadd, 1) := dAL_law_66.2.1
theorem dL_law_1029 : decode cL_law 1029 = .ok (.iaload, 1) := dAL_law_66.2.2.1
theorem dL_law_1030 : decode cL_law 1030 = .ok (.invokevirtual 139, 3) := dAL_law_66.2.2.2.1
theorem dL_law_1033 : decode cL_law 1033 = .ok (.pop, 1) := dAL_law_66.2.2.2.2.1
theorem dL_law_1034 : decode cL_law 1034 = .ok (.goto 793, 3) := dAL_law_66.2.2.2.2.2.1
theorem dL_law_1037 : decode cL_law 1037 = .ok (.aload_n 1, 1) := dAL_law_66.2.2.2.2.2.2.1
theorem dL_law_1038 : decode cL_law 1038 = .ok (.aload_n 0, 1) := dAL_law_66.2.2.2.2.2.2.2
set_option maxRecDepth 100000 in
theorem dAL_law_67 : decode cL_law 1039 = .ok (.iload 4, 2) ∧ decode cL_law 1041 = .ok (.iconst 1, 1) ∧ decode cL_law 1042 = .ok (.iadd, 1) ∧ decode cL_law 1043 = .ok (.iaload, 1) ∧ decode cL_law 1044 = .ok (.aload_n 0, 1) ∧ decode cL_law 1045 = .ok (.iload 4, 2) ∧ decode cL_law 1047 = .ok (.iconst 2, 1) ∧ decode cL_law 1048 = .ok (.iadd, 1) := by decide +kernel
theorem dL_law_1039 : decode cL_law 1039 = .ok (.iload 4, 2) := dAL_law_67.1
theorem dL_law_1041 : decode cL_law 1041 = .ok (.iconst 1, 1) := dAL_law_67.2.1
theorem dL_law_1042 : decode cL_law 1042 = .ok (.iadd, 1) := dAL_law_67.2.2.1
theorem dL_law_1043 : decode cL_law 1043 = .ok (.iaload, 1) := dAL_law_67.2.2.2.1
theorem dL_law_1044 : decode cL_law 1044 = .ok (.aload_n 0, 1) := dAL_law_67.2.2.2.2.1
theorem dL_law_1045 : decode cL_law 1045 = .ok (.iload 4, 2) := dAL_law_67.2.2.2.2.2.1
theorem dL_law_1047 : decode cL_law 1047 = .ok (.iconst 2, 1) := dAL_law_67.2.2.2.2.2.2.1
theorem dL_law_1048 : decode cL_law 1048 = .ok (.iadd, 1) := dAL_law_67.2.2.2.2.2.2.2
set_option maxRecDepth 100000 in
theorem dAL_law_68 : decode cL_law 1049 = .ok (.iaload, 1) ∧ decode cL_law 1050 = .ok (.ifCond .eq 7, 3) ∧ decode cL_law 1053 = .ok (.iconst 1, 1) ∧ decode cL_law 1054 = .ok (.goto 4, 3) ∧ decode cL_law 1057 = .ok (.iconst 0, 1) ∧ decode cL_law 1058 = .ok (.invokevirtual 140, 3) ∧ decode cL_law 1061 = .ok (.pop2, 1) ∧ decode cL_law 1062 = .ok (.aload_n 2, 1) := by decide +kernel
theorem dL_law_1049 : decode cL_law 1049 = .ok (.iaload, 1) := dAL_law_68.1
theorem dL_law_1050 : decode cL_law 1050 = .ok (.ifCond .eq 7, 3) := dAL_law_68.2.1
theorem dL_law_1053 : decode cL_law 1053 = .ok (.iconst 1, 1) := dAL_law_68.2.2.1
theorem dL_law_1054 : decode cL_law 1054 = .ok (.goto 4, 3) := dAL_law_68.2.2.2.1
theorem dL_law_1057 : decode cL_law 1057 = .ok (.iconst 0, 1) := dAL_law_68.2.2.2.2.1
theorem dL_law_1058 : decode cL_law 1058 = .ok (.invokevirtual 140, 3) := dAL_law_68.2.2.2.2.2.1
theorem dL_law_1061 : decode cL_law 1061 = .ok (.pop2, 1) := dAL_law_68.2.2.2.2.2.2.1
theorem dL_law_1062 : decode cL_law 1062 = .ok (.aload_n 2, 1) := dAL_law_68.2.2.2.2.2.2.2
set_option maxRecDepth 100000 in
theorem dAL_law_69 : decode cL_law 1063 = .ok (.aload_n 0, 1) ∧ decode cL_law 1064 = .ok (.iload 4, 2) ∧ decode cL_law 1066 = .ok (.iconst 1, 1) ∧ decode cL_law 1067 = .ok (.iadd, 1) ∧ decode cL_law 1068 = .ok (.iaload, 1) ∧ decode cL_law 1069 = .ok (.aload_n 0, 1) ∧ decode cL_law 1070 = .ok (.iload 4, 2) ∧ decode cL_law 1072 = .ok (.iconst 2, 1) := by decide +kernel
theorem dL_law_1063 : decode cL_law 1063 = .ok (.aload_n 0, 1) := dAL_law_69.1
theorem dL_law_1064 : decode cL_law 1064 = .ok (.iload 4, 2) := dAL_law_69.2.1
theorem dL_law_1066 : decode cL_law 1066 = .ok (.iconst 1, 1) := dAL_law_69.2.2.1
theorem dL_law_1067 : decode cL_law 1067 = .ok (.iadd, 1) := dAL_law_69.2.2.2.1
theorem dL_law_1068 : decode cL_law 1068 = .ok (.iaload, 1) := dAL_law_69.2.2.2.2.1
theorem dL_law_1069 : decode cL_law 1069 = .ok (.aload_n 0, 1) := dAL_law_69.2.2.2.2.2.1
theorem dL_law_1070 : decode cL_law 1070 = .ok (.iload 4, 2) := dAL_law_69.2.2.2.2.2.2.1
theorem dL_law_1072 : decode cL_law 1072 = .ok (.iconst 2, 1) := dAL_law_69.2.2.2.2.2.2.2
set_option maxRecDepth 100000 in
theorem dAL_law_70 : decode cL_law 1073 = .ok (.iadd, 1) ∧ decode cL_law 1074 = .ok (.iaload, 1) ∧ decode cL_law 1075 = .ok (.ifCond .eq 7, 3) ∧ decode cL_law 1078 = .ok (.iconst 1, 1) ∧ decode cL_law 1079 = .ok (.goto 4, 3) ∧ decode cL_law 1082 = .ok (.iconst 0, 1) ∧ decode cL_law 1083 = .ok (.invokevirtual 143, 3) ∧ decode cL_law 1086 = .ok (.pop2, 1) := by decide +kernel
theorem dL_law_1073 : decode cL_law 1073 = .ok (.iadd, 1) := dAL_law_70.1
theorem dL_law_1074 : decode cL_law 1074 = .ok (.iaload, 1) := dAL_law_70.2.1
theorem dL_law_1075 : decode cL_law 1075 = .ok (.ifCond .eq 7, 3) := dAL_law_70.2.2.1
theorem dL_law_1078 : decode cL_law 1078 = .ok (.iconst 1, 1) := dAL_law_70.2.2.2.1
theorem dL_law_1079 : decode cL_law 1079 = .ok (.goto 4, 3) := dAL_law_70.2.2.2.2.1
theorem dL_law_1082 : decode cL_law 1082 = .ok (.iconst 0, 1) := dAL_law_70.2.2.2.2.2.1
theorem dL_law_1083 : decode cL_law 1083 = .ok (.invokevirtual 143, 3) := dAL_law_70.2.2.2.2.2.2.1
theorem dL_law_1086 : decode cL_law 1086 = .ok (.pop2, 1) := dAL_law_70.2.2.2.2.2.2.2
set_option maxRecDepth 100000 in
theorem dAL_law_71 : decode cL_law 1087 = .ok (.goto 740, 3) ∧ decode cL_law 1090 = .ok (.aload_n 1, 1) ∧ decode cL_law 1091 = .ok (.aload_n 0, 1) ∧ decode cL_law 1092 = .ok (.iload 4, 2) ∧ decode cL_law 1094 = .ok (.iconst 1, 1) ∧ decode cL_law 1095 = .ok (.iadd, 1) ∧ decode cL_law 1096 = .ok (.iaload, 1) ∧ decode cL_law 1097 = .ok (.invokevirtual 144, 3) := by decide +kernel
theorem dL_law_1087 : decode cL_law 1087 = .ok (.goto 740, 3) := dAL_law_71.1
theorem dL_law_1090 : decode cL_law 1090 = .ok (.aload_n 1, 1) := dAL_law_71.2.1
theorem dL_law_1091 : decode cL_law 1091 = .ok (.aload_n 0, 1) := dAL_law_71.2.2.1
theorem dL_law_1092 : decode cL_law 1092 = .ok (.iload 4, 2) := dAL_law_71.2.2.2.1
theorem dL_law_1094 : decode cL_law 1094 = .ok (.iconst 1, 1) := dAL_law_71.2.2.2.2.1
theorem dL_law_1095 : decode cL_law 1095 = .ok (.iadd, 1) := dAL_law_71.2.2.2.2.2.1
theorem dL_law_1096 : decode cL_law 1096 = .ok (.iaload, 1) := dAL_law_71.2.2.2.2.2.2.1
theorem dL_law_1097 : decode cL_law 1097 = .ok (.invokevirtual 144, 3) := dAL_law_71.2.2.2.2.2.2.2
set_option maxRecDepth 100000 in
theorem dAL_law_72 : decode cL_law 1100 = .ok (.pop, 1) ∧ decode cL_law 1101 = .ok (.aload_n 2, 1) ∧ decode cL_law 1102 = .ok (.aload_n 0, 1) ∧ decode cL_law 1103 = .ok (.iload 4, 2) ∧ decode cL_law 1105 = .ok (.iconst 1, 1) ∧ decode cL_law 1106 = .ok (.iadd, 1) ∧ decode cL_law 1107 = .ok (.iaload, 1) ∧ decode cL_law 1108 = .ok (.invokevirtual 147, 3) := by decide +kernel
theorem dL_law_1100 : decode cL_law 1100 = .ok (.pop, 1) := dAL_law_72.1
theorem dL_law_1101 : decode cL_law 1101 = .ok (.aload_n 2, 1) := dAL_law_72.2.1
theorem dL_law_1102 : decode cL_law 1102 = .ok (.aload_n 0, 1) := dAL_law_72.2.2.1
theorem dL_law_1103 : decode cL_law 1103 = .ok (.iload 4, 2) := dAL_law_72.2.2.2.1
theorem dL_law_1105 : decode cL_law 1105 = .ok (.iconst 1, 1) := dAL_law_72.2.2.2.2.1
theorem dL_law_1106 : decode cL_law 1106 = .ok (.iadd, 1) := dAL_law_72.2.2.2.2.2.1
theorem dL_law_1107 : decode cL_law 1107 = .ok (.iaload, 1) := dAL_law_72.2.2.2.2.2.2.1
theorem dL_law_1108 : decode cL_law 1108 = .ok (.invokevirtual 147, 3) := dAL_law_72.2.2.2.2.2.2.2
set_option maxRecDepth 100000 in
theorem dAL_law_73 : decode cL_law 1111 = .ok (.pop, 1) ∧ decode cL_law 1112 = .ok (.goto 715, 3) ∧ decode cL_law 1115 = .ok (.aload_n 1, 1) ∧ decode cL_law 1116 = .ok (.aload_n 0, 1) ∧ decode cL_law 1117 = .ok (.iload 4, 2) ∧ decode cL_law 1119 = .ok (.iconst 1, 1) ∧ decode cL_law 1120 = .ok (.iadd, 1) ∧ decode cL_law 1121 = .ok (.iaload, 1) := by decide +kernel
theorem dL_law_1111 : decode cL_law 1111 = .ok (.pop, 1) := dAL_law_73.1
theorem dL_law_1112 : decode cL_law 1112 = .ok (.goto 715, 3) := dAL_law_73.2.1
theorem dL_law_1115 : decode cL_law 1115 = .ok (.aload_n 1, 1) := dAL_law_73.2.2.1
theorem dL_law_1116 : decode cL_law 1116 = .ok (.aload_n 0, 1) := dAL_law_73.2.2.2.1
theorem dL_law_1117 : decode cL_law 1117 = .ok (.iload 4, 2) := dAL_law_73.2.2.2.2.1
theorem dL_law_1119 : decode cL_law 1119 = .ok (.iconst 1, 1) := dAL_law_73.2.2.2.2.2.1
theorem dL_law_1120 : decode cL_law 1120 = .ok (.iadd, 1) := dAL_law_73.2.2.2.2.2.2.1
theorem dL_law_1121 : decode cL_law 1121 = .ok (.iaload, 1) := dAL_law_73.2.2.2.2.2.2.2
set_option maxRecDepth 100000 in
theorem dAL_law_74 : decode cL_law 1122 = .ok (.aload_n 0, 1) ∧ decode cL_law 1123 = .ok (.iload 4, 2) ∧ decode cL_law 1125 = .ok (.iconst 2, 1) ∧ decode cL_law 1126 = .ok (.iadd, 1) ∧ decode cL_law 1127 = .ok (.iaload, 1) ∧ decode cL_law 1128 = .ok (.ifCond .eq 7, 3) ∧ decode cL_law 1131 = .ok (.iconst 1, 1) ∧ decode cL_law 1132 = .ok (.goto 4, 3) := by decide +kernel
theorem dL_law_1122 : decode cL_law 1122 = .ok (.aload_n 0, 1) := dAL_law_74.1
theorem dL_law_1123 : decode cL_law 1123 = .ok (.iload 4, 2) := dAL_law_74.2.1
theorem dL_law_1125 : decode cL_law 1125 = .ok (.iconst 2, 1) := dAL_law_74.2.2.1
theorem dL_law_1126 : decode cL_law 1126 = .ok (.iadd, 1) := dAL_law_74.2.2.2.1
theorem dL_law_1127 : decode cL_law 1127 = .ok (.iaload, 1) := dAL_law_74.2.2.2.2.1
theorem dL_law_1128 : decode cL_law 1128 = .ok (.ifCond .eq 7, 3) := dAL_law_74.2.2.2.2.2.1
theorem dL_law_1131 : decode cL_law 1131 = .ok (.iconst 1, 1) := dAL_law_74.2.2.2.2.2.2.1
theorem dL_law_1132 : decode cL_law 1132 = .ok (.goto 4, 3) := dAL_law_74.2.2.2.2.2.2.2
set_option maxRecDepth 100000 in
theorem dAL_law_75 : decode cL_law 1135 = .ok (.iconst 0, 1) ∧ decode cL_law 1136 = .ok (.invokevirtual 148, 3) ∧ decode cL_law 1139 = .ok (.pop2, 1) ∧ decode cL_law 1140 = .ok (.aload_n 2, 1) ∧ decode cL_law 1141 = .ok (.aload_n 0, 1) ∧ decode cL_law 1142 = .ok (.iload 4, 2) ∧ decode cL_law 1144 = .ok (.iconst 1, 1) ∧ decode cL_law 1145 = .ok (.iadd, 1) := by decide +kernel
theorem dL_law_1135 : decode cL_law 1135 = .ok (.iconst 0, 1) := dAL_law_75.1
theorem dL_law_1136 : decode cL_law 1136 = .ok (.invokevirtual 148, 3) := dAL_law_75.2.1
theorem dL_law_1139 : decode cL_law 1139 = .ok (.pop2, 1) := dAL_law_75.2.2.1
theorem dL_law_1140 : decode cL_law 1140 = .ok (.aload_n 2, 1) := dAL_law_75.2.2.2.1
theorem dL_law_1141 : decode cL_law 1141 = .ok (.aload_n 0, 1) := dAL_law_75.2.2.2.2.1
theorem dL_law_1142 : decode cL_law 1142 = .ok (.iload 4, 2) := dAL_law_75.2.2.2.2.2.1
theorem dL_law_1144 : decode cL_law 1144 = .ok (.iconst 1, 1) := dAL_law_75.2.2.2.2.2.2.1
theorem dL_law_1145 : decode cL_law 1145 = .ok (.iadd, 1) := dAL_law_75.2.2.2.2.2.2.2
set_option maxRecDepth 100000 in
theorem dAL_law_76 : decode cL_law 1146 = .ok (.iaload, 1) ∧ decode cL_law 1147 = .ok (.aload_n 0, 1) ∧ decode cL_law 1148 = .ok (.iload 4, 2) ∧ decode cL_law 1150 = .ok (.iconst 2, 1) ∧ decode cL_law 1151 = .ok (.iadd, 1) ∧ decode cL_law 1152 = .ok (.iaload, 1) ∧ decode cL_law 1153 = .ok (.ifCond .eq 7, 3) ∧ decode cL_law 1156 = .ok (.iconst 1, 1) := by decide +kernel
theorem dL_law_1146 : decode cL_law 1146 = .ok (.iaload, 1) := dAL_law_76.1
theorem dL_law_1147 : decode cL_law 1147 = .ok (.aload_n 0, 1) := dAL_law_76.2.1
theorem dL_law_1148 : decode cL_law 1148 = .ok (.iload 4, 2) := dAL_law_76.2.2.1
theorem dL_law_1150 : decode cL_law 1150 = .ok (.iconst 2, 1) := dAL_law_76.2.2.2.1
theorem dL_law_1151 : decode cL_law 1151 = .ok (.iadd, 1) := dAL_law_76.2.2.2.2.1
theorem dL_law_1152 : decode cL_law 1152 = .ok (.iaload, 1) := dAL_law_76.2.2.2.2.2.1
theorem dL_law_1153 : decode cL_law 1153 = .ok (.ifCond .eq 7, 3) := dAL_law_76.2.2.2.2.2.2.1
theorem dL_law_1156 : decode cL_law 1156 = .ok (.iconst 1, 1) := dAL_law_76.2.2.2.2.2.2.2
set_option maxRecDepth 100000 in
theorem dAL_law_77 : decode cL_law 1157 = .ok (.goto 4, 3) ∧ decode cL_law 1160 = .ok (.iconst 0, 1) ∧ decode cL_law 1161 = .ok (.invokevirtual 151, 3) ∧ decode cL_law 1164 = .ok (.pop2, 1) ∧ decode cL_law 1165 = .ok (.goto 662, 3) ∧ decode cL_law 1168 = .ok (.aload_n 1, 1) ∧ decode cL_law 1169 = .ok (.invokevirtual 152, 3) ∧ decode cL_law 1172 = .ok (.pop, 1) := by decide +kernel
theorem dL_law_1157 : decode cL_law 1157 = .ok (.goto 4, 3) := dAL_law_77.1
theorem dL_law_1160 : decode cL_law 1160 = .ok (.iconst 0, 1) := dAL_law_77.2.1
theorem dL_law_1161 : decode cL_law 1161 = .ok (.invokevirtual 151, 3) := dAL_law_77.2.2.1
theorem dL_law_1164 : decode cL_law 1164 = .ok (.pop2, 1) := dAL_law_77.2.2.2.1
theorem dL_law_1165 : decode cL_law 1165 = .ok (.goto 662, 3) := dAL_law_77.2.2.2.2.1
theorem dL_law_1168 : decode cL_law 1168 = .ok (.aload_n 1, 1) := dAL_law_77.2.2.2.2.2.1
theorem dL_law_1169 : decode cL_law 1169 = .ok (.invokevirtual 152, 3) := dAL_law_77.2.2.2.2.2.2.1
theorem dL_law_1172 : decode cL_law 1172 = .ok (.pop, 1) := dAL_law_77.2.2.2.2.2.2.2
set_option maxRecDepth 100000 in
theorem dAL_law_78 : decode cL_law 1173 = .ok (.aload_n 2, 1) ∧ decode cL_law 1174 = .ok (.invokevirtual 155, 3) ∧ decode cL_law 1177 = .ok (.pop, 1) ∧ decode cL_law 1178 = .ok (.goto 649, 3) ∧ decode cL_law 1181 = .ok (.aload_n 1, 1) ∧ decode cL_law 1182 = .ok (.aload_n 0, 1) ∧ decode cL_law 1183 = .ok (.iload 4, 2) ∧ decode cL_law 1185 = .ok (.iconst 1, 1) := by decide +kernel
theorem dL_law_1173 : decode cL_law 1173 = .ok (.aload_n 2, 1) := dAL_law_78.1
theorem dL_law_1174 : decode cL_law 1174 = .ok (.invokevirtual 155, 3) := dAL_law_78.2.1
theorem dL_law_1177 : decode cL_law 1177 = .ok (.pop, 1) := dAL_law_78.2.2.1
theorem dL_law_1178 : decode cL_law 1178 = .ok (.goto 649, 3) := dAL_law_78.2.2.2.1
theorem dL_law_1181 : decode cL_law 1181 = .ok (.aload_n 1, 1) := dAL_law_78.2.2.2.2.1
theorem dL_law_1182 : decode cL_law 1182 = .ok (.aload_n 0, 1) := dAL_law_78.2.2.2.2.2.1
theorem dL_law_1183 : decode cL_law 1183 = .ok (.iload 4, 2) := dAL_law_78.2.2.2.2.2.2.1
theorem dL_law_1185 : decode cL_law 1185 = .ok (.iconst 1, 1) := dAL_law_78.2.2.2.2.2.2.2
set_option maxRecDepth 100000 in
theorem dAL_law_79 : decode cL_law 1186 = .ok (.iadd, 1) ∧ decode cL_law 1187 = .ok (.iaload, 1) ∧ decode cL_law 1188 = .ok (.invokevirtual 156, 3) ∧ decode cL_law 1191 = .ok (.pop, 1) ∧ decode cL_law 1192 = .ok (.aload_n 2, 1) ∧ decode cL_law 1193 = .ok (.aload_n 0, 1) ∧ decode cL_law 1194 = .ok (.iload 4, 2) ∧ decode cL_law 1196 = .ok (.iconst 1, 1) := by decide +kernel
theorem dL_law_1186 : decode cL_law 1186 = .ok (.iadd, 1) := dAL_law_79.1
theorem dL_law_1187 : decode cL_law 1187 = .ok (.iaload, 1) := dAL_law_79.2.1
theorem dL_law_1188 : decode cL_law 1188 = .ok (.invokevirtual 156, 3) := dAL_law_79.2.2.1
theorem dL_law_1191 : decode cL_law 1191 = .ok (.pop, 1) := dAL_law_79.2.2.2.1
theorem dL_law_1192 : decode cL_law 1192 = .ok (.aload_n 2, 1) := dAL_law_79.2.2.2.2.1
theorem dL_law_1193 : decode cL_law 1193 = .ok (.aload_n 0, 1) := dAL_law_79.2.2.2.2.2.1
theorem dL_law_1194 : decode cL_law 1194 = .ok (.iload 4, 2) := dAL_law_79.2.2.2.2.2.2.1
theorem dL_law_1196 : decode cL_law 1196 = .ok (.iconst 1, 1) := dAL_law_79.2.2.2.2.2.2.2
set_option maxRecDepth 100000 in
theorem dAL_law_80 : decode cL_law 1197 = .ok (.iadd, 1) ∧ decode cL_law 1198 = .ok (.iaload, 1) ∧ decode cL_law 1199 = .ok (.invokevirtual 159, 3) ∧ decode cL_law 1202 = .ok (.pop, 1) ∧ decode cL_law 1203 = .ok (.goto 624, 3) ∧ decode cL_law 1206 = .ok (.aload_n 1, 1) ∧ decode cL_law 1207 = .ok (.invokevirtual 160, 3) ∧ decode cL_law 1210 = .ok (.pop, 1) := by decide +kernel
theorem dL_law_1197 : decode cL_law 1197 = .ok (.iadd, 1) := dAL_law_80.1
theorem dL_law_1198 : decode cL_law 1198 = .ok (.iaload, 1) := dAL_law_80.2.1
theorem dL_law_1199 : decode cL_law 1199 = .ok (.invokevirtual 159, 3) := dAL_law_80.2.2.1
theorem dL_law_1202 : decode cL_law 1202 = .ok (.pop, 1) := dAL_law_80.2.2.2.1
theorem dL_law_1203 : decode cL_law 1203 = .ok (.goto 624, 3) := dAL_law_80.2.2.2.2.1
theorem dL_law_1206 : decode cL_law 1206 = .ok (.aload_n 1, 1) := dAL_law_80.2.2.2.2.2.1
theorem dL_law_1207 : decode cL_law 1207 = .ok (.invokevirtual 160, 3) := dAL_law_80.2.2.2.2.2.2.1
theorem dL_law_1210 : decode cL_law 1210 = .ok (.pop, 1) := dAL_law_80.2.2.2.2.2.2.2
set_option maxRecDepth 100000 in
theorem dAL_law_81 : decode cL_law 1211 = .ok (.aload_n 2, 1) ∧ decode cL_law 1212 = .ok (.invokevirtual 163, 3) ∧ decode cL_law 1215 = .ok (.pop, 1) ∧ decode cL_law 1216 = .ok (.goto 611, 3) ∧ decode cL_law 1219 = .ok (.aload_n 1, 1) ∧ decode cL_law 1220 = .ok (.invokevirtual 164, 3) ∧ decode cL_law 1223 = .ok (.pop, 1) ∧ decode cL_law 1224 = .ok (.aload_n 2, 1) := by decide +kernel
theorem dL_law_1211 : decode cL_law 1211 = .ok (.aload_n 2, 1) := dAL_law_81.1
theorem dL_law_1212 : decode cL_law 1212 = .ok (.invokevirtual 163, 3) := dAL_law_81.2.1
theorem dL_law_1215 : decode cL_law 1215 = .ok (.pop, 1) := dAL_law_81.2.2.1
theorem dL_law_1216 : decode cL_law 1216 = .ok (.goto 611, 3) := dAL_law_81.2.2.2.1
theorem dL_law_1219 : decode cL_law 1219 = .ok (.aload_n 1, 1) := dAL_law_81.2.2.2.2.1
theorem dL_law_1220 : decode cL_law 1220 = .ok (.invokevirtual 164, 3) := dAL_law_81.2.2.2.2.2.1
theorem dL_law_1223 : decode cL_law 1223 = .ok (.pop, 1) := dAL_law_81.2.2.2.2.2.2.1
theorem dL_law_1224 : decode cL_law 1224 = .ok (.aload_n 2, 1) := dAL_law_81.2.2.2.2.2.2.2
set_option maxRecDepth 100000 in
theorem dAL_law_82 : decode cL_law 1225 = .ok (.invokevirtual 167, 3) ∧ decode cL_law 1228 = .ok (.pop, 1) ∧ decode cL_law 1229 = .ok (.goto 598, 3) ∧ decode cL_law 1232 = .ok (.aload_n 1, 1) ∧ decode cL_law 1233 = .ok (.aload_n 0, 1) ∧ decode cL_law 1234 = .ok (.iload 4, 2) ∧ decode cL_law 1236 = .ok (.iconst 1, 1) ∧ decode cL_law 1237 = .ok (.iadd, 1) := by decide +kernel
theorem dL_law_1225 : decode cL_law 1225 = .ok (.invokevirtual 167, 3) := dAL_law_82.1
theorem dL_law_1228 : decode cL_law 1228 = .ok (.pop, 1) := dAL_law_82.2.1
theorem dL_law_1229 : decode cL_law 1229 = .ok (.goto 598, 3) := dAL_law_82.2.2.1
theorem dL_law_1232 : decode cL_law 1232 = .ok (.aload_n 1, 1) := dAL_law_82.2.2.2.1
theorem dL_law_1233 : decode cL_law 1233 = .ok (.aload_n 0, 1) := dAL_law_82.2.2.2.2.1
theorem dL_law_1234 : decode cL_law 1234 = .ok (.iload 4, 2) := dAL_law_82.2.2.2.2.2.1
theorem dL_law_1236 : decode cL_law 1236 = .ok (.iconst 1, 1) := dAL_law_82.2.2.2.2.2.2.1
theorem dL_law_1237 : decode cL_law 1237 = .ok (.iadd, 1) := dAL_law_82.2.2.2.2.2.2.2
set_option maxRecDepth 100000 in
theorem dAL_law_83 : decode cL_law 1238 = .ok (.iaload, 1) ∧ decode cL_law 1239 = .ok (.invokevirtual 168, 3) ∧ decode cL_law 1242 = .ok (.pop, 1) ∧ decode cL_law 1243 = .ok (.aload_n 2, 1) ∧ decode cL_law 1244 = .ok (.aload_n 0, 1) ∧ decode cL_law 1245 = .ok (.iload 4, 2) ∧ decode cL_law 1247 = .ok (.iconst 1, 1) ∧ decode cL_law 1248 = .ok (.iadd, 1) := by decide +kernel
theorem dL_law_1238 : decode cL_law 1238 = .ok (.iaload, 1) := dAL_law_83.1
theorem dL_law_1239 : decode cL_law 1239 = .ok (.invokevirtual 168, 3) := dAL_law_83.2.1
theorem dL_law_1242 : decode cL_law 1242 = .ok (.pop, 1) := dAL_law_83.2.2.1
theorem dL_law_1243 : decode cL_law 1243 = .ok (.aload_n 2, 1) := dAL_law_83.2.2.2.1
theorem dL_law_1244 : decode cL_law 1244 = .ok (.aload_n 0, 1) := dAL_law_83.2.2.2.2.1
theorem dL_law_1245 : decode cL_law 1245 = .ok (.iload 4, 2) := dAL_law_83.2.2.2.2.2.1
theorem dL_law_1247 : decode cL_law 1247 = .ok (.iconst 1, 1) := dAL_law_83.2.2.2.2.2.2.1
theorem dL_law_1248 : decode cL_law 1248 = .ok (.iadd, 1) := dAL_law_83.2.2.2.2.2.2.2
set_option maxRecDepth 100000 in
theorem dAL_law_84 : decode cL_law 1249 = .ok (.iaload, 1) ∧ decode cL_law 1250 = .ok (.invokevirtual 171, 3) ∧ decode cL_law 1253 = .ok (.pop, 1) ∧ decode cL_law 1254 = .ok (.goto 573, 3) ∧ decode cL_law 1257 = .ok (.aload_n 1, 1) ∧ decode cL_law 1258 = .ok (.invokevirtual 172, 3) ∧ decode cL_law 1261 = .ok (.pop, 1) ∧ decode cL_law 1262 = .ok (.aload_n 2, 1) := by decide +kernel
theorem dL_law_1249 : decode cL_law 1249 = .ok (.iaload, 1) := dAL_law_84.1
theorem dL_law_1250 : decode cL_law 1250 = .ok (.invokevirtual 171, 3) := dAL_law_84.2.1
theorem dL_law_1253 : decode cL_law 1253 = .ok (.pop, 1) := dAL_law_84.2.2.1
theorem dL_law_1254 : decode cL_law 1254 = .ok (.goto 573, 3) := dAL_law_84.2.2.2.1
theorem dL_law_1257 : decode cL_law 1257 = .ok (.aload_n 1, 1) := dAL_law_84.2.2.2.2.1
theorem dL_law_1258 : decode cL_law 1258 = .ok (.invokevirtual 172, 3) := dAL_law_84.2.2.2.2.2.1
theorem dL_law_1261 : decode cL_law 1261 = .ok (.pop, 1) := dAL_law_84.2.2.2.2.2.2.1
theorem dL_law_1262 : decode cL_law 1262 = .ok (.aload_n 2, 1) := dAL_law_84.2.2.2.2.2.2.2
set_option maxRecDepth 100000 in
theorem dAL_law_85 : decode cL_law 1263 = .ok (.invokevirtual 175, 3) ∧ decode cL_law 1266 = .ok (.pop, 1) ∧ decode cL_law 1267 = .ok (.goto 560, 3) ∧ decode cL_law 1270 = .ok (.aload_n 1, 1) ∧ decode cL_law 1271 = .ok (.invokevirtual 176, 3) ∧ decode cL_law 1274 = .ok (.pop, 1) ∧ decode cL_law 1275 = .ok (.aload_n 2, 1) ∧ decode cL_law 1276 = .ok (.invokevirtual 179, 3) := by decide +kernel
theorem dL_law_1263 : decode cL_law 1263 = .ok (.invokevirtual 175, 3) := dAL_law_85.1
theorem dL_law_1266 : decode cL_law 1266 = .ok (.pop, 1) := dAL_law_85.2.1
theorem dL_law_1267 : decode cL_law 1267 = .ok (.goto 560, 3) := dAL_law_85.2.2.1
theorem dL_law_1270 : decode cL_law 1270 = .ok (.aload_n 1, 1) := dAL_law_85.2.2.2.1
theorem dL_law_1271 : decode cL_law 1271 = .ok (.invokevirtual 176, 3) := dAL_law_85.2.2.2.2.1
theorem dL_law_1274 : decode cL_law 1274 = .ok (.pop, 1) := dAL_law_85.2.2.2.2.2.1
theorem dL_law_1275 : decode cL_law 1275 = .ok (.aload_n 2, 1) := dAL_law_85.2.2.2.2.2.2.1
theorem dL_law_1276 : decode cL_law 1276 = .ok (.invokevirtual 179, 3) := dAL_law_85.2.2.2.2.2.2.2
set_option maxRecDepth 100000 in
theorem dAL_law_86 : decode cL_law 1279 = .ok (.pop, 1) ∧ decode cL_law 1280 = .ok (.goto 547, 3) ∧ decode cL_law 1283 = .ok (.aload_n 1, 1) ∧ decode cL_law 1284 = .ok (.invokevirtual 180, 3) ∧ decode cL_law 1287 = .ok (.pop, 1) ∧ decode cL_law 1288 = .ok (.aload_n 2, 1) ∧ decode cL_law 1289 = .ok (.invokevirtual 183, 3) ∧ decode cL_law 1292 = .ok (.pop, 1) := by decide +kernel
theorem dL_law_1279 : decode cL_law 1279 = .ok (.pop, 1) := dAL_law_86.1
theorem dL_law_1280 : decode cL_law 1280 = .ok (.goto 547, 3) := dAL_law_86.2.1
theorem dL_law_1283 : decode cL_law 1283 = .ok (.aload_n 1, 1) := dAL_law_86.2.2.1
theorem dL_law_1284 : decode cL_law 1284 = .ok (.invokevirtual 180, 3) := dAL_law_86.2.2.2.1
theorem dL_law_1287 : decode cL_law 1287 = .ok (.pop, 1) := dAL_law_86.2.2.2.2.1
theorem dL_law_1288 : decode cL_law 1288 = .ok (.aload_n 2, 1) := dAL_law_86.2.2.2.2.2.1
theorem dL_law_1289 : decode cL_law 1289 = .ok (.invokevirtual 183, 3) := dAL_law_86.2.2.2.2.2.2.1
theorem dL_law_1292 : decode cL_law 1292 = .ok (.pop, 1) := dAL_law_86.2.2.2.2.2.2.2
set_option maxRecDepth 100000 in
theorem dAL_law_87 : decode cL_law 1293 = .ok (.goto 534, 3) ∧ decode cL_law 1296 = .ok (.aload_n 1, 1) ∧ decode cL_law 1297 = .ok (.invokevirtual 184, 3) ∧ decode cL_law 1300 = .ok (.pop, 1) ∧ decode cL_law 1301 = .ok (.aload_n 2, 1) ∧ decode cL_law 1302 = .ok (.invokevirtual 187, 3) ∧ decode cL_law 1305 = .ok (.pop, 1) ∧ decode cL_law 1306 = .ok (.goto 521, 3) := by decide +kernel
theorem dL_law_1293 : decode cL_law 1293 = .ok (.goto 534, 3) := dAL_law_87.1
theorem dL_law_1296 : decode cL_law 1296 = .ok (.aload_n 1, 1) := dAL_law_87.2.1
theorem dL_law_1297 : decode cL_law 1297 = .ok (.invokevirtual 184, 3) := dAL_law_87.2.2.1
theorem dL_law_1300 : decode cL_law 1300 = .ok (.pop, 1) := dAL_law_87.2.2.2.1
theorem dL_law_1301 : decode cL_law 1301 = .ok (.aload_n 2, 1) := dAL_law_87.2.2.2.2.1
theorem dL_law_1302 : decode cL_law 1302 = .ok (.invokevirtual 187, 3) := dAL_law_87.2.2.2.2.2.1
theorem dL_law_1305 : decode cL_law 1305 = .ok (.pop, 1) := dAL_law_87.2.2.2.2.2.2.1
theorem dL_law_1306 : decode cL_law 1306 = .ok (.goto 521, 3) := dAL_law_87.2.2.2.2.2.2.2
set_option maxRecDepth 100000 in
theorem dAL_law_88 : decode cL_law 1309 = .ok (.aload_n 1, 1) ∧ decode cL_law 1310 = .ok (.aload_n 0, 1) ∧ decode cL_law 1311 = .ok (.iload 4, 2) ∧ decode cL_law 1313 = .ok (.iconst 1, 1) ∧ decode cL_law 1314 = .ok (.iadd, 1) ∧ decode cL_law 1315 = .ok (.iaload, 1) ∧ decode cL_law 1316 = .ok (.aload_n 0, 1) ∧ decode cL_law 1317 = .ok (.iload 4, 2) := by decide +kernel
theorem dL_law_1309 : decode cL_law 1309 = .ok (.aload_n 1, 1) := dAL_law_88.1
theorem dL_law_1310 : decode cL_law 1310 = .ok (.aload_n 0, 1) := dAL_law_88.2.1
theorem dL_law_1311 : decode cL_law 1311 = .ok (.iload 4, 2) := dAL_law_88.2.2.1
theorem dL_law_1313 : decode cL_law 1313 = .ok (.iconst 1, 1) := dAL_law_88.2.2.2.1
theorem dL_law_1314 : decode cL_law 1314 = .ok (.iadd, 1) := dAL_law_88.2.2.2.2.1
theorem dL_law_1315 : decode cL_law 1315 = .ok (.iaload, 1) := dAL_law_88.2.2.2.2.2.1
theorem dL_law_1316 : decode cL_law 1316 = .ok (.aload_n 0, 1) := dAL_law_88.2.2.2.2.2.2.1
theorem dL_law_1317 : decode cL_law 1317 = .ok (.iload 4, 2) := dAL_law_88.2.2.2.2.2.2.2
set_option maxRecDepth 100000 in
theorem dAL_law_89 : decode cL_law 1319 = .ok (.iconst 2, 1) ∧ decode cL_law 1320 = .ok (.iadd, 1) ∧ decode cL_law 1321 = .ok (.iaload, 1) ∧ decode cL_law 1322 = .ok (.ifCond .eq 7, 3) ∧ decode cL_law 1325 = .ok (.iconst 1, 1) ∧ decode cL_law 1326 = .ok (.goto 4, 3) ∧ decode cL_law 1329 = .ok (.iconst 0, 1) ∧ decode cL_law 1330 = .ok (.invokevirtual 188, 3) := by decide +kernel
theorem dL_law_1319 : decode cL_law 1319 = .ok (.iconst 2, 1) := dAL_law_89.1
theorem dL_law_1320 : decode cL_law 1320 = .ok (.iadd, 1) := dAL_law_89.2.1
theorem dL_law_1321 : decode cL_law 1321 = .ok (.iaload, 1) := dAL_law_89.2.2.1
theorem dL_law_1322 : decode cL_law 1322 = .ok (.ifCond .eq 7, 3) := dAL_law_89.2.2.2.1
theorem dL_law_1325 : decode cL_law 1325 = .ok (.iconst 1, 1) := dAL_law_89.2.2.2.2.1
theorem dL_law_1326 : decode cL_law 1326 = .ok (.goto 4, 3) := dAL_law_89.2.2.2.2.2.1
theorem dL_law_1329 : decode cL_law 1329 = .ok (.iconst 0, 1) := dAL_law_89.2.2.2.2.2.2.1
theorem dL_law_1330 : decode cL_law 1330 = .ok (.invokevirtual 188, 3) := dAL_law_89.2.2.2.2.2.2.2
set_option maxRecDepth 100000 in
theorem dAL_law_90 : decode cL_law 1333 = .ok (.pop2, 1) ∧ decode cL_law 1334 = .ok (.aload_n 2, 1) ∧ decode cL_law 1335 = .ok (.aload_n 0, 1) ∧ decode cL_law 1336 = .ok (.iload 4, 2) ∧ decode cL_law 1338 = .ok (.iconst 1, 1) ∧ decode cL_law 1339 = .ok (.iadd, 1) ∧ decode cL_law 1340 = .ok (.iaload, 1) ∧ decode cL_law 1341 = .ok (.aload_n 0, 1) := by decide +kernel
theorem dL_law_1333 : decode cL_law 1333 = .ok (.pop2, 1) := dAL_law_90.1
theorem dL_law_1334 : decode cL_law 1334 = .ok (.aload_n 2, 1) := dAL_law_90.2.1
theorem dL_law_1335 : decode cL_law 1335 = .ok (.aload_n 0, 1) := dAL_law_90.2.2.1
theorem dL_law_1336 : decode cL_law 1336 = .ok (.iload 4, 2) := dAL_law_90.2.2.2.1
theorem dL_law_1338 : decode cL_law 1338 = .ok (.iconst 1, 1) := dAL_law_90.2.2.2.2.1
theorem dL_law_1339 : decode cL_law 1339 = .ok (.iadd, 1) := dAL_law_90.2.2.2.2.2.1
theorem dL_law_1340 : decode cL_law 1340 = .ok (.iaload, 1) := dAL_law_90.2.2.2.2.2.2.1
theorem dL_law_1341 : decode cL_law 1341 = .ok (.aload_n 0, 1) := dAL_law_90.2.2.2.2.2.2.2
set_option maxRecDepth 100000 in
theorem dAL_law_91 : decode cL_law 1342 = .ok (.iload 4, 2) ∧ decode cL_law 1344 = .ok (.iconst 2, 1) ∧ decode cL_law 1345 = .ok (.iadd, 1) ∧ decode cL_law 1346 = .ok (.iaload, 1) ∧ decode cL_law 1347 = .ok (.ifCond .eq 7, 3) ∧ decode cL_law 1350 = .ok (.iconst 1, 1) ∧ decode cL_law 1351 = .ok (.goto 4, 3) ∧ decode cL_law 1354 = .ok (.iconst 0, 1) := by decide +kernel
theorem dL_law_1342 : decode cL_law 1342 = .ok (.iload 4, 2) := dAL_law_91.1
theorem dL_law_1344 : decode cL_law 1344 = .ok (.iconst 2, 1) := dAL_law_91.2.1
theorem dL_law_1345 : decode cL_law 1345 = .ok (.iadd, 1) := dAL_law_91.2.2.1
theorem dL_law_1346 : decode cL_law 1346 = .ok (.iaload, 1) := dAL_law_91.2.2.2.1
theorem dL_law_1347 : decode cL_law 1347 = .ok (.ifCond .eq 7, 3) := dAL_law_91.2.2.2.2.1
theorem dL_law_1350 : decode cL_law 1350 = .ok (.iconst 1, 1) := dAL_law_91.2.2.2.2.2.1
theorem dL_law_1351 : decode cL_law 1351 = .ok (.goto 4, 3) := dAL_law_91.2.2.2.2.2.2.1
theorem dL_law_1354 : decode cL_law 1354 = .ok (.iconst 0, 1) := dAL_law_91.2.2.2.2.2.2.2
set_option maxRecDepth 100000 in
theorem dAL_law_92 : decode cL_law 1355 = .ok (.invokevirtual 191, 3) ∧ decode cL_law 1358 = .ok (.pop2, 1) ∧ decode cL_law 1359 = .ok (.goto 468, 3) ∧ decode cL_law 1362 = .ok (.aload_n 1, 1) ∧ decode cL_law 1363 = .ok (.aload_n 0, 1) ∧ decode cL_law 1364 = .ok (.iload 4, 2) ∧ decode cL_law 1366 = .ok (.iconst 1, 1) ∧ decode cL_law 1367 = .ok (.iadd, 1) := by decide +kernel
theorem dL_law_1355 : decode cL_law 1355 = .ok (.invokevirtual 191, 3) := dAL_law_92.1
theorem dL_law_1358 : decode cL_law 1358 = .ok (.pop2, 1) := dAL_law_92.2.1
theorem dL_law_1359 : decode cL_law 1359 = .ok (.goto 468, 3) := dAL_law_92.2.2.1
theorem dL_law_1362 : decode cL_law 1362 = .ok (.aload_n 1, 1) := dAL_law_92.2.2.2.1
theorem dL_law_1363 : decode cL_law 1363 = .ok (.aload_n 0, 1) := dAL_law_92.2.2.2.2.1
theorem dL_law_1364 : decode cL_law 1364 = .ok (.iload 4, 2) := dAL_law_92.2.2.2.2.2.1
theorem dL_law_1366 : decode cL_law 1366 = .ok (.iconst 1, 1) := dAL_law_92.2.2.2.2.2.2.1
theorem dL_law_1367 : decode cL_law 1367 = .ok (.iadd, 1) := dAL_law_92.2.2.2.2.2.2.2
set_option maxRecDepth 100000 in
theorem dAL_law_93 : decode cL_law 1368 = .ok (.iaload, 1) ∧ decode cL_law 1369 = .ok (.ifCond .eq 7, 3) ∧ decode cL_law 1372 = .ok (.iconst 1, 1) ∧ decode cL_law 1373 = .ok (.goto 4, 3) ∧ decode cL_law 1376 = .ok (.iconst 0, 1) ∧ decode cL_law 1377 = .ok (.invokevirtual 192, 3) ∧ decode cL_law 1380 = .ok (.pop2, 1) ∧ decode cL_law 1381 = .ok (.aload_n 2, 1) := by decide +kernel
theorem dL_law_1368 : decode cL_law 1368 = .ok (.iaload, 1) := dAL_law_93.1
theorem dL_law_1369 : decode cL_law 1369 = .ok (.ifCond .eq 7, 3) := dAL_law_93.2.1
theorem dL_law_1372 : decode cL_law 1372 = .ok (.iconst 1, 1) := dAL_law_93.2.2.1
theorem dL_law_1373 : decode cL_law 1373 = .ok (.goto 4, 3) := dAL_law_93.2.2.2.1
theorem dL_law_1376 : decode cL_law 1376 = .ok (.iconst 0, 1) := dAL_law_93.2.2.2.2.1
theorem dL_law_1377 : decode cL_law 1377 = .ok (.invokevirtual 192, 3) := dAL_law_93.2.2.2.2.2.1
theorem dL_law_1380 : decode cL_law 1380 = .ok (.pop2, 1) := dAL_law_93.2.2.2.2.2.2.1
theorem dL_law_1381 : decode cL_law 1381 = .ok (.aload_n 2, 1) := dAL_law_93.2.2.2.2.2.2.2
set_option maxRecDepth 100000 in
theorem dAL_law_94 : decode cL_law 1382 = .ok (.aload_n 0, 1) ∧ decode cL_law 1383 = .ok (.iload 4, 2) ∧ decode cL_law 1385 = .ok (.iconst 1, 1) ∧ decode cL_law 1386 = .ok (.iadd, 1) ∧ decode cL_law 1387 = .ok (.iaload, 1) ∧ decode cL_law 1388 = .ok (.ifCond .eq 7, 3) ∧ decode cL_law 1391 = .ok (.iconst 1, 1) ∧ decode cL_law 1392 = .ok (.goto 4, 3) := by decide +kernel
theorem dL_law_1382 : decode cL_law 1382 = .ok (.aload_n 0, 1) := dAL_law_94.1
theorem dL_law_1383 : decode cL_law 1383 = .ok (.iload 4, 2) := dAL_law_94.2.1
theorem dL_law_1385 : decode cL_law 1385 = .ok (.iconst 1, 1) := dAL_law_94.2.2.1
theorem dL_law_1386 : decode cL_law 1386 = .ok (.iadd, 1) := dAL_law_94.2.2.2.1
theorem dL_law_1387 : decode cL_law 1387 = .ok (.iaload, 1) := dAL_law_94.2.2.2.2.1
theorem dL_law_1388 : decode cL_law 1388 = .ok (.ifCond .eq 7, 3) := dAL_law_94.2.2.2.2.2.1
theorem dL_law_1391 : decode cL_law 1391 = .ok (.iconst 1, 1) := dAL_law_94.2.2.2.2.2.2.1
theorem dL_law_1392 : decode cL_law 1392 = .ok (.goto 4, 3) := dAL_law_94.2.2.2.2.2.2.2
set_option maxRecDepth 100000 in
theorem dAL_law_95 : decode cL_law 1395 = .ok (.iconst 0, 1) ∧ decode cL_law 1396 = .ok (.invokevirtual 196, 3) ∧ decode cL_law 1399 = .ok (.pop2, 1) ∧ decode cL_law 1400 = .ok (.goto 427, 3) ∧ decode cL_law 1403 = .ok (.aload_n 1, 1) ∧ decode cL_law 1404 = .ok (.aload_n 0, 1) ∧ decode cL_law 1405 = .ok (.iload 4, 2) ∧ decode cL_law 1407 = .ok (.iconst 1, 1) := by decide +kernel
theorem dL_law_1395 : decode cL_law 1395 = .ok (.iconst 0, 1) := dAL_law_95.1
theorem dL_law_1396 : decode cL_law 1396 = .ok (.invokevirtual 196, 3) := dAL_law_95.2.1
theorem dL_law_1399 : decode cL_law 1399 = .ok (.pop2, 1) := dAL_law_95.2.2.1
theorem dL_law_1400 : decode cL_law 1400 = .ok (.goto 427, 3) := dAL_law_95.2.2.2.1
theorem dL_law_1403 : decode cL_law 1403 = .ok (.aload_n 1, 1) := dAL_law_95.2.2.2.2.1
theorem dL_law_1404 : decode cL_law 1404 = .ok (.aload_n 0, 1) := dAL_law_95.2.2.2.2.2.1
theorem dL_law_1405 : decode cL_law 1405 = .ok (.iload 4, 2) := dAL_law_95.2.2.2.2.2.2.1
theorem dL_law_1407 : decode cL_law 1407 = .ok (.iconst 1, 1) := dAL_law_95.2.2.2.2.2.2.2
set_option maxRecDepth 100000 in
theorem dAL_law_96 : decode cL_law 1408 = .ok (.iadd, 1) ∧ decode cL_law 1409 = .ok (.iaload, 1) ∧ decode cL_law 1410 = .ok (.aload_n 0, 1) ∧ decode cL_law 1411 = .ok (.iload 4, 2) ∧ decode cL_law 1413 = .ok (.iconst 2, 1) ∧ decode cL_law 1414 = .ok (.iadd, 1) ∧ decode cL_law 1415 = .ok (.iaload, 1) ∧ decode cL_law 1416 = .ok (.ifCond .eq 7, 3) := by decide +kernel
theorem dL_law_1408 : decode cL_law 1408 = .ok (.iadd, 1) := dAL_law_96.1
theorem dL_law_1409 : decode cL_law 1409 = .ok (.iaload, 1) := dAL_law_96.2.1
theorem dL_law_1410 : decode cL_law 1410 = .ok (.aload_n 0, 1) := dAL_law_96.2.2.1
theorem dL_law_1411 : decode cL_law 1411 = .ok (.iload 4, 2) := dAL_law_96.2.2.2.1
theorem dL_law_1413 : decode cL_law 1413 = .ok (.iconst 2, 1) := dAL_law_96.2.2.2.2.1
theorem dL_law_1414 : decode cL_law 1414 = .ok (.iadd, 1) := dAL_law_96.2.2.2.2.2.1
theorem dL_law_1415 : decode cL_law 1415 = .ok (.iaload, 1) := dAL_law_96.2.2.2.2.2.2.1
theorem dL_law_1416 : decode cL_law 1416 = .ok (.ifCond .eq 7, 3) := dAL_law_96.2.2.2.2.2.2.2
set_option maxRecDepth 100000 in
theorem dAL_law_97 : decode cL_law 1419 = .ok (.iconst 1, 1) ∧ decode cL_law 1420 = .ok (.goto 4, 3) ∧ decode cL_law 1423 = .ok (.iconst 0, 1) ∧ decode cL_law 1424 = .ok (.aload_n 0, 1) ∧ decode cL_law 1425 = .ok (.iload 4, 2) ∧ decode cL_law 1427 = .ok (.iconst 3, 1) ∧ decode cL_law 1428 = .ok (.iadd, 1) ∧ decode cL_law 1429 = .ok (.iaload, 1) := by decide +kernel
theorem dL_law_1419 : decode cL_law 1419 = .ok (.iconst 1, 1) := dAL_law_97.1
theorem dL_law_1420 : decode cL_law 1420 = .ok (.goto 4, 3) := dAL_law_97.2.1
theorem dL_law_1423 : decode cL_law 1423 = .ok (.iconst 0, 1) := dAL_law_97.2.2.1
theorem dL_law_1424 : decode cL_law 1424 = .ok (.aload_n 0, 1) := dAL_law_97.2.2.2.1
theorem dL_law_1425 : decode cL_law 1425 = .ok (.iload 4, 2) := dAL_law_97.2.2.2.2.1
theorem dL_law_1427 : decode cL_law 1427 = .ok (.iconst 3, 1) := dAL_law_97.2.2.2.2.2.1
theorem dL_law_1428 : decode cL_law 1428 = .ok (.iadd, 1) := dAL_law_97.2.2.2.2.2.2.1
theorem dL_law_1429 : decode cL_law 1429 = .ok (.iaload, 1) := dAL_law_97.2.2.2.2.2.2.2
set_option maxRecDepth 100000 in
theorem dAL_law_98 : decode cL_law 1430 = .ok (.ifCond .eq 7, 3) ∧ decode cL_law 1433 = .ok (.iconst 1, 1) ∧ decode cL_law 1434 = .ok (.goto 4, 3) ∧ decode cL_law 1437 = .ok (.iconst 0, 1) ∧ decode cL_law 1438 = .ok (.aload_n 0, 1) ∧ decode cL_law 1439 = .ok (.iload 4, 2) ∧ decode cL_law 1441 = .ok (.iconst 4, 1) ∧ decode cL_law 1442 = .ok (.iadd, 1) := by decide +kernel
theorem dL_law_1430 : decode cL_law 1430 = .ok (.ifCond .eq 7, 3) := dAL_law_98.1
theorem dL_law_1433 : decode cL_law 1433 = .ok (.iconst 1, 1) := dAL_law_98.2.1
theorem dL_law_1434 : decode cL_law 1434 = .ok (.goto 4, 3) := dAL_law_98.2.2.1
theorem dL_law_1437 : decode cL_law 1437 = .ok (.iconst 0, 1) := dAL_law_98.2.2.2.1
theorem dL_law_1438 : decode cL_law 1438 = .ok (.aload_n 0, 1) := dAL_law_98.2.2.2.2.1
theorem dL_law_1439 : decode cL_law 1439 = .ok (.iload 4, 2) := dAL_law_98.2.2.2.2.2.1
theorem dL_law_1441 : decode cL_law 1441 = .ok (.iconst 4, 1) := dAL_law_98.2.2.2.2.2.2.1
theorem dL_law_1442 : decode cL_law 1442 = .ok (.iadd, 1) := dAL_law_98.2.2.2.2.2.2.2
set_option maxRecDepth 100000 in
theorem dAL_law_99 : decode cL_law 1443 = .ok (.iaload, 1) ∧ decode cL_law 1444 = .ok (.ifCond .eq 7, 3) ∧ decode cL_law 1447 = .ok (.iconst 1, 1) ∧ decode cL_law 1448 = .ok (.goto 4, 3) ∧ decode cL_law 1451 = .ok (.iconst 0, 1) ∧ decode cL_law 1452 = .ok (.invokevirtual 197, 3) ∧ decode cL_law 1455 = .ok (.pop, 1) ∧ decode cL_law 1456 = .ok (.aload_n 2, 1) := by decide +kernel
theorem dL_law_1443 : decode cL_law 1443 = .ok (.iaload, 1) := dAL_law_99.1
theorem dL_law_1444 : decode cL_law 1444 = .ok (.ifCond .eq 7, 3) := dAL_law_99.2.1
theorem dL_law_1447 : decode cL_law 1447 = .ok (.iconst 1, 1) := dAL_law_99.2.2.1
theorem dL_law_1448 : decode cL_law 1448 = .ok (.goto 4, 3) := dAL_law_99.2.2.2.1
theorem dL_law_1451 : decode cL_law 1451 = .ok (.iconst 0, 1) := dAL_law_99.2.2.2.2.1
theorem dL_law_1452 : decode cL_law 1452 = .ok (.invokevirtual 197, 3) := dAL_law_99.2.2.2.2.2.1
theorem dL_law_1455 : decode cL_law 1455 = .ok (.pop, 1) := dAL_law_99.2.2.2.2.2.2.1
theorem dL_law_1456 : decode cL_law 1456 = .ok (.aload_n 2, 1) := dAL_law_99.2.2.2.2.2.2.2
set_option maxRecDepth 100000 in
theorem dAL_law_100 : decode cL_law 1457 = .ok (.aload_n 0, 1) ∧ decode cL_law 1458 = .ok (.iload 4, 2) ∧ decode cL_law 1460 = .ok (.iconst 1, 1) ∧ decode cL_law 1461 = .ok (.iadd, 1) ∧ decode cL_law 1462 = .ok (.iaload, 1) ∧ decode cL_law 1463 = .ok (.aload_n 0, 1) ∧ decode cL_law 1464 = .ok (.iload 4, 2) ∧ decode cL_law 1466 = .ok (.iconst 2, 1) := by decide +kernel
theorem dL_law_1457 : decode cL_law 1457 = .ok (.aload_n 0, 1) := dAL_law_100.1
theorem dL_law_1458 : decode cL_law 1458 = .ok (.iload 4, 2) := dAL_law_100.2.1
theorem dL_law_1460 : decode cL_law 1460 = .ok (.iconst 1, 1) := dAL_law_100.2.2.1
theorem dL_law_1461 : decode cL_law 1461 = .ok (.iadd, 1) := dAL_law_100.2.2.2.1
theorem dL_law_1462 : decode cL_law 1462 = .ok (.iaload, 1) := dAL_law_100.2.2.2.2.1
theorem dL_law_1463 : decode cL_law 1463 = .ok (.aload_n 0, 1) := dAL_law_100.2.2.2.2.2.1
theorem dL_law_1464 : decode cL_law 1464 = .ok (.iload 4, 2) := dAL_law_100.2.2.2.2.2.2.1
theorem dL_law_1466 : decode cL_law 1466 = .ok (.iconst 2, 1) := dAL_law_100.2.2.2.2.2.2.2
set_option maxRecDepth 100000 in
theorem dAL_law_101 : decode cL_law 1467 = .ok (.iadd, 1) ∧ decode cL_law 1468 = .ok (.iaload, 1) ∧ decode cL_law 1469 = .ok (.ifCond .eq 7, 3) ∧ decode cL_law 1472 = .ok (.iconst 1, 1) ∧ decode cL_law 1473 = .ok (.goto 4, 3) ∧ decode cL_law 1476 = .ok (.iconst 0, 1) ∧ decode cL_law 1477 = .ok (.aload_n 0, 1) ∧ decode cL_law 1478 = .ok (.iload 4, 2) := by decide +kernel
theorem dL_law_1467 : decode cL_law 1467 = .ok (.iadd, 1) := dAL_law_101.1
theorem dL_law_1468 : decode cL_law 1468 = .ok (.iaload, 1) := dAL_law_101.2.1
theorem dL_law_1469 : decode cL_law 1469 = .ok (.ifCond .eq 7, 3) := dAL_law_101.2.2.1
theorem dL_law_1472 : decode cL_law 1472 = .ok (.iconst 1, 1) := dAL_law_101.2.2.2.1
theorem dL_law_1473 : decode cL_law 1473 = .ok (.goto 4, 3) := dAL_law_101.2.2.2.2.1
theorem dL_law_1476 : decode cL_law 1476 = .ok (.iconst 0, 1) := dAL_law_101.2.2.2.2.2.1
theorem dL_law_1477 : decode cL_law 1477 = .ok (.aload_n 0, 1) := dAL_law_101.2.2.2.2.2.2.1
theorem dL_law_1478 : decode cL_law 1478 = .ok (.iload 4, 2) := dAL_law_101.2.2.2.2.2.2.2
set_option maxRecDepth 100000 in
theorem dAL_law_102 : decode cL_law 1480 = .ok (.iconst 3, 1) ∧ decode cL_law 1481 = .ok (.iadd, 1) ∧ decode cL_law 1482 = .ok (.iaload, 1) ∧ decode cL_law 1483 = .ok (.ifCond .eq 7, 3) ∧ decode cL_law 1486 = .ok (.iconst 1, 1) ∧ decode cL_law 1487 = .ok (.goto 4, 3) ∧ decode cL_law 1490 = .ok (.iconst 0, 1) ∧ decode cL_law 1491 = .ok (.aload_n 0, 1) := by decide +kernel
theorem dL_law_1480 : decode cL_law 1480 = .ok (.iconst 3, 1) := dAL_law_102.1
theorem dL_law_1481 : decode cL_law 1481 = .ok (.iadd, 1) := dAL_law_102.2.1
theorem dL_law_1482 : decode cL_law 1482 = .ok (.iaload, 1) := dAL_law_102.2.2.1
theorem dL_law_1483 : decode cL_law 1483 = .ok (.ifCond .eq 7, 3) := dAL_law_102.2.2.2.1
theorem dL_law_1486 : decode cL_law 1486 = .ok (.iconst 1, 1) := dAL_law_102.2.2.2.2.1
theorem dL_law_1487 : decode cL_law 1487 = .ok (.goto 4, 3) := dAL_law_102.2.2.2.2.2.1
theorem dL_law_1490 : decode cL_law 1490 = .ok (.iconst 0, 1) := dAL_law_102.2.2.2.2.2.2.1
theorem dL_law_1491 : decode cL_law 1491 = .ok (.aload_n 0, 1) := dAL_law_102.2.2.2.2.2.2.2
set_option maxRecDepth 100000 in
theorem dAL_law_103 : decode cL_law 1492 = .ok (.iload 4, 2) ∧ decode cL_law 1494 = .ok (.iconst 4, 1) ∧ decode cL_law 1495 = .ok (.iadd, 1) ∧ decode cL_law 1496 = .ok (.iaload, 1) ∧ decode cL_law 1497 = .ok (.ifCond .eq 7, 3) ∧ decode cL_law 1500 = .ok (.iconst 1, 1) ∧ decode cL_law 1501 = .ok (.goto 4, 3) ∧ decode cL_law 1504 = .ok (.iconst 0, 1) := by decide +kernel
theorem dL_law_1492 : decode cL_law 1492 = .ok (.iload 4, 2) := dAL_law_103.1
theorem dL_law_1494 : decode cL_law 1494 = .ok (.iconst 4, 1) := dAL_law_103.2.1
theorem dL_law_1495 : decode cL_law 1495 = .ok (.iadd, 1) := dAL_law_103.2.2.1
theorem dL_law_1496 : decode cL_law 1496 = .ok (.iaload, 1) := dAL_law_103.2.2.2.1
theorem dL_law_1497 : decode cL_law 1497 = .ok (.ifCond .eq 7, 3) := dAL_law_103.2.2.2.2.1
theorem dL_law_1500 : decode cL_law 1500 = .ok (.iconst 1, 1) := dAL_law_103.2.2.2.2.2.1
theorem dL_law_1501 : decode cL_law 1501 = .ok (.goto 4, 3) := dAL_law_103.2.2.2.2.2.2.1
theorem dL_law_1504 : decode cL_law 1504 = .ok (.iconst 0, 1) := dAL_law_103.2.2.2.2.2.2.2
set_option maxRecDepth 100000 in
theorem dAL_law_104 : decode cL_law 1505 = .ok (.invokevirtual 201, 3) ∧ decode cL_law 1508 = .ok (.pop, 1) ∧ decode cL_law 1509 = .ok (.goto 318, 3) ∧ decode cL_law 1512 = .ok (.aload_n 1, 1) ∧ decode cL_law 1513 = .ok (.aload_n 0, 1) ∧ decode cL_law 1514 = .ok (.iload 4, 2) ∧ decode cL_law 1516 = .ok (.iconst 1, 1) ∧ decode cL_law 1517 = .ok (.iadd, 1) := by decide +kernel
theorem dL_law_1505 : decode cL_law 1505 = .ok (.invokevirtual 201, 3) := dAL_law_104.1
theorem dL_law_1508 : decode cL_law 1508 = .ok (.pop, 1) := dAL_law_104.2.1
theorem dL_law_1509 : decode cL_law 1509 = .ok (.goto 318, 3) := dAL_law_104.2.2.1
theorem dL_law_1512 : decode cL_law 1512 = .ok (.aload_n 1, 1) := dAL_law_104.2.2.2.1
theorem dL_law_1513 : decode cL_law 1513 = .ok (.aload_n 0, 1) := dAL_law_104.2.2.2.2.1
theorem dL_law_1514 : decode cL_law 1514 = .ok (.iload 4, 2) := dAL_law_104.2.2.2.2.2.1
theorem dL_law_1516 : decode cL_law 1516 = .ok (.iconst 1, 1) := dAL_law_104.2.2.2.2.2.2.1
theorem dL_law_1517 : decode cL_law 1517 = .ok (.iadd, 1) := dAL_law_104.2.2.2.2.2.2.2
set_option maxRecDepth 100000 in
theorem dAL_law_105 : decode cL_law 1518 = .ok (.iaload, 1) ∧ decode cL_law 1519 = .ok (.invokevirtual 202, 3) ∧ decode cL_law 1522 = .ok (.pop, 1) ∧ decode cL_law 1523 = .ok (.aload_n 2, 1) ∧ decode cL_law 1524 = .ok (.aload_n 0, 1) ∧ decode cL_law 1525 = .ok (.iload 4, 2) ∧ decode cL_law 1527 = .ok (.iconst 1, 1) ∧ decode cL_law 1528 = .ok (.iadd, 1) := by decide +kernel
theorem dL_law_1518 : decode cL_law 1518 = .ok (.iaload, 1) := dAL_law_105.1
theorem dL_law_1519 : decode cL_law 1519 = .ok (.invokevirtual 202, 3) := dAL_law_105.2.1
theorem dL_law_1522 : decode cL_law 1522 = .ok (.pop, 1) := dAL_law_105.2.2.1
theorem dL_law_1523 : decode cL_law 1523 = .ok (.aload_n 2, 1) := dAL_law_105.2.2.2.1
theorem dL_law_1524 : decode cL_law 1524 = .ok (.aload_n 0, 1) := dAL_law_105.2.2.2.2.1
theorem dL_law_1525 : decode cL_law 1525 = .ok (.iload 4, 2) := dAL_law_105.2.2.2.2.2.1
theorem dL_law_1527 : decode cL_law 1527 = .ok (.iconst 1, 1) := dAL_law_105.2.2.2.2.2.2.1
theorem dL_law_1528 : decode cL_law 1528 = .ok (.iadd, 1) := dAL_law_105.2.2.2.2.2.2.2
set_option maxRecDepth 100000 in
theorem dAL_law_106 : decode cL_law 1529 = .ok (.iaload, 1) ∧ decode cL_law 1530 = .ok (.invokevirtual 205, 3) ∧ decode cL_law 1533 = .ok (.pop, 1) ∧ decode cL_law 1534 = .ok (.goto 293, 3) ∧ decode cL_law 1537 = .ok (.aload_n 1, 1) ∧ decode cL_law 1538 = .ok (.aload_n 0, 1) ∧ decode cL_law 1539 = .ok (.iload 4, 2) ∧ decode cL_law 1541 = .ok (.iconst 1, 1) := by decide +kernel
theorem dL_law_1529 : decode cL_law 1529 = .ok (.iaload, 1) := dAL_law_106.1
theorem dL_law_1530 : decode cL_law 1530 = .ok (.invokevirtual 205, 3) := dAL_law_106.2.1
theorem dL_law_1533 : decode cL_law 1533 = .ok (.pop, 1) := dAL_law_106.2.2.1
theorem dL_law_1534 : decode cL_law 1534 = .ok (.goto 293, 3) := dAL_law_106.2.2.2.1
theorem dL_law_1537 : decode cL_law 1537 = .ok (.aload_n 1, 1) := dAL_law_106.2.2.2.2.1
theorem dL_law_1538 : decode cL_law 1538 = .ok (.aload_n 0, 1) := dAL_law_106.2.2.2.2.2.1
theorem dL_law_1539 : decode cL_law 1539 = .ok (.iload 4, 2) := dAL_law_106.2.2.2.2.2.2.1
theorem dL_law_1541 : decode cL_law 1541 = .ok (.iconst 1, 1) := dAL_law_106.2.2.2.2.2.2.2
set_option maxRecDepth 100000 in
theorem dAL_law_107 : decode cL_law 1542 = .ok (.iadd, 1) ∧ decode cL_law 1543 = .ok (.iaload, 1) ∧ decode cL_law 1544 = .ok (.invokevirtual 206, 3) ∧ decode cL_law 1547 = .ok (.pop, 1) ∧ decode cL_law 1548 = .ok (.aload_n 2, 1) ∧ decode cL_law 1549 = .ok (.aload_n 0, 1) ∧ decode cL_law 1550 = .ok (.iload 4, 2) ∧ decode cL_law 1552 = .ok (.iconst 1, 1) := by decide +kernel
theorem dL_law_1542 : decode cL_law 1542 = .ok (.iadd, 1) := dAL_law_107.1
theorem dL_law_1543 : decode cL_law 1543 = .ok (.iaload, 1) := dAL_law_107.2.1
theorem dL_law_1544 : decode cL_law 1544 = .ok (.invokevirtual 206, 3) := dAL_law_107.2.2.1
theorem dL_law_1547 : decode cL_law 1547 = .ok (.pop, 1) := dAL_law_107.2.2.2.1
theorem dL_law_1548 : decode cL_law 1548 = .ok (.aload_n 2, 1) := dAL_law_107.2.2.2.2.1
theorem dL_law_1549 : decode cL_law 1549 = .ok (.aload_n 0, 1) := dAL_law_107.2.2.2.2.2.1
theorem dL_law_1550 : decode cL_law 1550 = .ok (.iload 4, 2) := dAL_law_107.2.2.2.2.2.2.1
theorem dL_law_1552 : decode cL_law 1552 = .ok (.iconst 1, 1) := dAL_law_107.2.2.2.2.2.2.2
set_option maxRecDepth 100000 in
theorem dAL_law_108 : decode cL_law 1553 = .ok (.iadd, 1) ∧ decode cL_law 1554 = .ok (.iaload, 1) ∧ decode cL_law 1555 = .ok (.invokevirtual 209, 3) ∧ decode cL_law 1558 = .ok (.pop, 1) ∧ decode cL_law 1559 = .ok (.goto 268, 3) ∧ decode cL_law 1562 = .ok (.aload_n 1, 1) ∧ decode cL_law 1563 = .ok (.aload_n 0, 1) ∧ decode cL_law 1564 = .ok (.iload 4, 2) := by decide +kernel
theorem dL_law_1553 : decode cL_law 1553 = .ok (.iadd, 1) := dAL_law_108.1
theorem dL_law_1554 : decode cL_law 1554 = .ok (.iaload, 1) := dAL_law_108.2.1
theorem dL_law_1555 : decode cL_law 1555 = .ok (.invokevirtual 209, 3) := dAL_law_108.2.2.1
theorem dL_law_1558 : decode cL_law 1558 = .ok (.pop, 1) := dAL_law_108.2.2.2.1
theorem dL_law_1559 : decode cL_law 1559 = .ok (.goto 268, 3) := dAL_law_108.2.2.2.2.1
theorem dL_law_1562 : decode cL_law 1562 = .ok (.aload_n 1, 1) := dAL_law_108.2.2.2.2.2.1
theorem dL_law_1563 : decode cL_law 1563 = .ok (.aload_n 0, 1) := dAL_law_108.2.2.2.2.2.2.1
theorem dL_law_1564 : decode cL_law 1564 = .ok (.iload 4, 2) := dAL_law_108.2.2.2.2.2.2.2
set_option maxRecDepth 100000 in
theorem dAL_law_109 : decode cL_law 1566 = .ok (.iconst 1, 1) ∧ decode cL_law 1567 = .ok (.iadd, 1) ∧ decode cL_law 1568 = .ok (.iaload, 1) ∧ decode cL_law 1569 = .ok (.aload_n 0, 1) ∧ decode cL_law 1570 = .ok (.iload 4, 2) ∧ decode cL_law 1572 = .ok (.iconst 2, 1) ∧ decode cL_law 1573 = .ok (.iadd, 1) ∧ decode cL_law 1574 = .ok (.iaload, 1) := by decide +kernel
theorem dL_law_1566 : decode cL_law 1566 = .ok (.iconst 1, 1) := dAL_law_109.1
theorem dL_law_1567 : decode cL_law 1567 = .ok (.iadd, 1) := dAL_law_109.2.1
theorem dL_law_1568 : decode cL_law 1568 = .ok (.iaload, 1) := dAL_law_109.2.2.1
theorem dL_law_1569 : decode cL_law 1569 = .ok (.aload_n 0, 1) := dAL_law_109.2.2.2.1
theorem dL_law_1570 : decode cL_law 1570 = .ok (.iload 4, 2) := dAL_law_109.2.2.2.2.1
theorem dL_law_1572 : decode cL_law 1572 = .ok (.iconst 2, 1) := dAL_law_109.2.2.2.2.2.1
theorem dL_law_1573 : decode cL_law 1573 = .ok (.iadd, 1) := dAL_law_109.2.2.2.2.2.2.1
theorem dL_law_1574 : decode cL_law 1574 = .ok (.iaload, 1) := dAL_law_109.2.2.2.2.2.2.2
set_option maxRecDepth 100000 in
theorem dAL_law_110 : decode cL_law 1575 = .ok (.invokevirtual 210, 3) ∧ decode cL_law 1578 = .ok (.pop, 1) ∧ decode cL_law 1579 = .ok (.aload_n 2, 1) ∧ decode cL_law 1580 = .ok (.aload_n 0, 1) ∧ decode cL_law 1581 = .ok (.iload 4, 2) ∧ decode cL_law 1583 = .ok (.iconst 1, 1) ∧ decode cL_law 1584 = .ok (.iadd, 1) ∧ decode cL_law 1585 = .ok (.iaload, 1) := by decide +kernel
theorem dL_law_1575 : decode cL_law 1575 = .ok (.invokevirtual 210, 3) := dAL_law_110.1
theorem dL_law_1578 : decode cL_law 1578 = .ok (.pop, 1) := dAL_law_110.2.1
theorem dL_law_1579 : decode cL_law 1579 = .ok (.aload_n 2, 1) := dAL_law_110.2.2.1
theorem dL_law_1580 : decode cL_law 1580 = .ok (.aload_n 0, 1) := dAL_law_110.2.2.2.1
theorem dL_law_1581 : decode cL_law 1581 = .ok (.iload 4, 2) := dAL_law_110.2.2.2.2.1
theorem dL_law_1583 : decode cL_law 1583 = .ok (.iconst 1, 1) := dAL_law_110.2.2.2.2.2.1
theorem dL_law_1584 : decode cL_law 1584 = .ok (.iadd, 1) := dAL_law_110.2.2.2.2.2.2.1
theorem dL_law_1585 : decode cL_law 1585 = .ok (.iaload, 1) := dAL_law_110.2.2.2.2.2.2.2
set_option maxRecDepth 100000 in
theorem dAL_law_111 : decode cL_law 1586 = .ok (.aload_n 0, 1) ∧ decode cL_law 1587 = .ok (.iload 4, 2) ∧ decode cL_law 1589 = .ok (.iconst 2, 1) ∧ decode cL_law 1590 = .ok (.iadd, 1) ∧ decode cL_law 1591 = .ok (.iaload, 1) ∧ decode cL_law 1592 = .ok (.invokevirtual 213, 3) ∧ decode cL_law 1595 = .ok (.pop, 1) ∧ decode cL_law 1596 = .ok (.goto 231, 3) := by decide +kernel
theorem dL_law_1586 : decode cL_law 1586 = .ok (.aload_n 0, 1) := dAL_law_111.1
theorem dL_law_1587 : decode cL_law 1587 = .ok (.iload 4, 2) := dAL_law_111.2.1
theorem dL_law_1589 : decode cL_law 1589 = .ok (.iconst 2, 1) := dAL_law_111.2.2.1
theorem dL_law_1590 : decode cL_law 1590 = .ok (.iadd, 1) := dAL_law_111.2.2.2.1
theorem dL_law_1591 : decode cL_law 1591 = .ok (.iaload, 1) := dAL_law_111.2.2.2.2.1
theorem dL_law_1592 : decode cL_law 1592 = .ok (.invokevirtual 213, 3) := dAL_law_111.2.2.2.2.2.1
theorem dL_law_1595 : decode cL_law 1595 = .ok (.pop, 1) := dAL_law_111.2.2.2.2.2.2.1
theorem dL_law_1596 : decode cL_law 1596 = .ok (.goto 231, 3) := dAL_law_111.2.2.2.2.2.2.2
set_option maxRecDepth 100000 in
theorem dAL_law_112 : decode cL_law 1599 = .ok (.aload_n 1, 1) ∧ decode cL_law 1600 = .ok (.aload_n 0, 1) ∧ decode cL_law 1601 = .ok (.iload 4, 2) ∧ decode cL_law 1603 = .ok (.iconst 1, 1) ∧ decode cL_law 1604 = .ok (.iadd, 1) ∧ decode cL_law 1605 = .ok (.iaload, 1) ∧ decode cL_law 1606 = .ok (.aload_n 0, 1) ∧ decode cL_law 1607 = .ok (.iload 4, 2) := by decide +kernel
theorem dL_law_1599 : decode cL_law 1599 = .ok (.aload_n 1, 1) := dAL_law_112.1
theorem dL_law_1600 : decode cL_law 1600 = .ok (.aload_n 0, 1) := dAL_law_112.2.1
theorem dL_law_1601 : decode cL_law 1601 = .ok (.iload 4, 2) := dAL_law_112.2.2.1
theorem dL_law_1603 : decode cL_law 1603 = .ok (.iconst 1, 1) := dAL_law_112.2.2.2.1
theorem dL_law_1604 : decode cL_law 1604 = .ok (.iadd, 1) := dAL_law_112.2.2.2.2.1
theorem dL_law_1605 : decode cL_law 1605 = .ok (.iaload, 1) := dAL_law_112.2.2.2.2.2.1
theorem dL_law_1606 : decode cL_law 1606 = .ok (.aload_n 0, 1) := dAL_law_112.2.2.2.2.2.2.1
theorem dL_law_1607 : decode cL_law 1607 = .ok (.iload 4, 2) := dAL_law_112.2.2.2.2.2.2.2
set_option maxRecDepth 100000 in
theorem dAL_law_113 : decode cL_law 1609 = .ok (.iconst 2, 1) ∧ decode cL_law 1610 = .ok (.iadd, 1) ∧ decode cL_law 1611 = .ok (.iaload, 1) ∧ decode cL_law 1612 = .ok (.invokevirtual 214, 3) ∧ decode cL_law 1615 = .ok (.pop, 1) ∧ decode cL_law 1616 = .ok (.aload_n 2, 1) ∧ decode cL_law 1617 = .ok (.aload_n 0, 1) ∧ decode cL_law 1618 = .ok (.iload 4, 2) := by decide +kernel
theorem dL_law_1609 : decode cL_law 1609 = .ok (.iconst 2, 1) := dAL_law_113.1
theorem dL_law_1610 : decode cL_law 1610 = .ok (.iadd, 1) := dAL_law_113.2.1
theorem dL_law_1611 : decode cL_law 1611 = .ok (.iaload, 1) := dAL_law_113.2.2.1
theorem dL_law_1612 : decode cL_law 1612 = .ok (.invokevirtual 214, 3) := dAL_law_113.2.2.2.1
theorem dL_law_1615 : decode cL_law 1615 = .ok (.pop, 1) := dAL_law_113.2.2.2.2.1
theorem dL_law_1616 : decode cL_law 1616 = .ok (.aload_n 2, 1) := dAL_law_113.2.2.2.2.2.1
theorem dL_law_1617 : decode cL_law 1617 = .ok (.aload_n 0, 1) := dAL_law_113.2.2.2.2.2.2.1
theorem dL_law_1618 : decode cL_law 1618 = .ok (.iload 4, 2) := dAL_law_113.2.2.2.2.2.2.2
set_option maxRecDepth 100000 in
theorem dAL_law_114 : decode cL_law 1620 = .ok (.iconst 1, 1) ∧ decode cL_law 1621 = .ok (.iadd, 1) ∧ decode cL_law 1622 = .ok (.iaload, 1) ∧ decode cL_law 1623 = .ok (.aload_n 0, 1) ∧ decode cL_law 1624 = .ok (.iload 4, 2) ∧ decode cL_law 1626 = .ok (.iconst 2, 1) ∧ decode cL_law 1627 = .ok (.iadd, 1) ∧ decode cL_law 1628 = .ok (.iaload, 1) := by decide +kernel
theorem dL_law_1620 : decode cL_law 1620 = .ok (.iconst 1, 1) := dAL_law_114.1
theorem dL_law_1621 : decode cL_law 1621 = .ok (.iadd, 1) := dAL_law_114.2.1
theorem dL_law_1622 : decode cL_law 1622 = .ok (.iaload, 1) := dAL_law_114.2.2.1
theorem dL_law_1623 : decode cL_law 1623 = .ok (.aload_n 0, 1) := dAL_law_114.2.2.2.1
theorem dL_law_1624 : decode cL_law 1624 = .ok (.iload 4, 2) := dAL_law_114.2.2.2.2.1
theorem dL_law_1626 : decode cL_law 1626 = .ok (.iconst 2, 1) := dAL_law_114.2.2.2.2.2.1
theorem dL_law_1627 : decode cL_law 1627 = .ok (.iadd, 1) := dAL_law_114.2.2.2.2.2.2.1
theorem dL_law_1628 : decode cL_law 1628 = .ok (.iaload, 1) := dAL_law_114.2.2.2.2.2.2.2
set_option maxRecDepth 100000 in
theorem dAL_law_115 : decode cL_law 1629 = .ok (.invokevirtual 217, 3) ∧ decode cL_law 1632 = .ok (.pop, 1) ∧ decode cL_law 1633 = .ok (.goto 194, 3) ∧ decode cL_law 1636 = .ok (.aload_n 1, 1) ∧ decode cL_law 1637 = .ok (.aload_n 0, 1) ∧ decode cL_law 1638 = .ok (.iload 4, 2) ∧ decode cL_law 1640 = .ok (.iconst 1, 1) ∧ decode cL_law 1641 = .ok (.iadd, 1) := by decide +kernel
theorem dL_law_1629 : decode cL_law 1629 = .ok (.invokevirtual 217, 3) := dAL_law_115.1
theorem dL_law_1632 : decode cL_law 1632 = .ok (.pop, 1) := dAL_law_115.2.1
theorem dL_law_1633 : decode cL_law 1633 = .ok (.goto 194, 3) := dAL_law_115.2.2.1
theorem dL_law_1636 : decode cL_law 1636 = .ok (.aload_n 1, 1) := dAL_law_115.2.2.2.1
theorem dL_law_1637 : decode cL_law 1637 = .ok (.aload_n 0, 1) := dAL_law_115.2.2.2.2.1
theorem dL_law_1638 : decode cL_law 1638 = .ok (.iload 4, 2) := dAL_law_115.2.2.2.2.2.1
theorem dL_law_1640 : decode cL_law 1640 = .ok (.iconst 1, 1) := dAL_law_115.2.2.2.2.2.2.1
theorem dL_law_1641 : decode cL_law 1641 = .ok (.iadd, 1) := dAL_law_115.2.2.2.2.2.2.2
set_option maxRecDepth 100000 in
theorem dAL_law_116 : decode cL_law 1642 = .ok (.iaload, 1) ∧ decode cL_law 1643 = .ok (.aload_n 0, 1) ∧ decode cL_law 1644 = .ok (.iload 4, 2) ∧ decode cL_law 1646 = .ok (.iconst 2, 1) ∧ decode cL_law 1647 = .ok (.iadd, 1) ∧ decode cL_law 1648 = .ok (.iaload, 1) ∧ decode cL_law 1649 = .ok (.invokevirtual 218, 3) ∧ decode cL_law 1652 = .ok (.pop, 1) := by decide +kernel
theorem dL_law_1642 : decode cL_law 1642 = .ok (.iaload, 1) := dAL_law_116.1
theorem dL_law_1643 : decode cL_law 1643 = .ok (.aload_n 0, 1) := dAL_law_116.2.1
theorem dL_law_1644 : decode cL_law 1644 = .ok (.iload 4, 2) := dAL_law_116.2.2.1
theorem dL_law_1646 : decode cL_law 1646 = .ok (.iconst 2, 1) := dAL_law_116.2.2.2.1
theorem dL_law_1647 : decode cL_law 1647 = .ok (.iadd, 1) := dAL_law_116.2.2.2.2.1
theorem dL_law_1648 : decode cL_law 1648 = .ok (.iaload, 1) := dAL_law_116.2.2.2.2.2.1
theorem dL_law_1649 : decode cL_law 1649 = .ok (.invokevirtual 218, 3) := dAL_law_116.2.2.2.2.2.2.1
theorem dL_law_1652 : decode cL_law 1652 = .ok (.pop, 1) := dAL_law_116.2.2.2.2.2.2.2
set_option maxRecDepth 100000 in
theorem dAL_law_117 : decode cL_law 1653 = .ok (.aload_n 2, 1) ∧ decode cL_law 1654 = .ok (.aload_n 0, 1) ∧ decode cL_law 1655 = .ok (.iload 4, 2) ∧ decode cL_law 1657 = .ok (.iconst 1, 1) ∧ decode cL_law 1658 = .ok (.iadd, 1) ∧ decode cL_law 1659 = .ok (.iaload, 1) ∧ decode cL_law 1660 = .ok (.aload_n 0, 1) ∧ decode cL_law 1661 = .ok (.iload 4, 2) := by decide +kernel
theorem dL_law_1653 : decode cL_law 1653 = .ok (.aload_n 2, 1) := dAL_law_117.1
theorem dL_law_1654 : decode cL_law 1654 = .ok (.aload_n 0, 1) := dAL_law_117.2.1
theorem dL_law_1655 : decode cL_law 1655 = .ok (.iload 4, 2) := dAL_law_117.2.2.1
theorem dL_law_1657 : decode cL_law 1657 = .ok (.iconst 1, 1) := dAL_law_117.2.2.2.1
theorem dL_law_1658 : decode cL_law 1658 = .ok (.iadd, 1) := dAL_law_117.2.2.2.2.1
theorem dL_law_1659 : decode cL_law 1659 = .ok (.iaload, 1) := dAL_law_117.2.2.2.2.2.1
theorem dL_law_1660 : decode cL_law 1660 = .ok (.aload_n 0, 1) := dAL_law_117.2.2.2.2.2.2.1
theorem dL_law_1661 : decode cL_law 1661 = .ok (.iload 4, 2) := dAL_law_117.2.2.2.2.2.2.2
set_option maxRecDepth 100000 in
theorem dAL_law_118 : decode cL_law 1663 = .ok (.iconst 2, 1) ∧ decode cL_law 1664 = .ok (.iadd, 1) ∧ decode cL_law 1665 = .ok (.iaload, 1) ∧ decode cL_law 1666 = .ok (.invokevirtual 222, 3) ∧ decode cL_law 1669 = .ok (.pop, 1) ∧ decode cL_law 1670 = .ok (.goto 157, 3) ∧ decode cL_law 1673 = .ok (.aload_n 1, 1) ∧ decode cL_law 1674 = .ok (.aload_n 0, 1) := by decide +kernel
theorem dL_law_1663 : decode cL_law 1663 = .ok (.iconst 2, 1) := dAL_law_118.1
theorem dL_law_1664 : decode cL_law 1664 = .ok (.iadd, 1) := dAL_law_118.2.1
theorem dL_law_1665 : decode cL_law 1665 = .ok (.iaload, 1) := dAL_law_118.2.2.1
theorem dL_law_1666 : decode cL_law 1666 = .ok (.invokevirtual 222, 3) := dAL_law_118.2.2.2.1
theorem dL_law_1669 : decode cL_law 1669 = .ok (.pop, 1) := dAL_law_118.2.2.2.2.1
theorem dL_law_1670 : decode cL_law 1670 = .ok (.goto 157, 3) := dAL_law_118.2.2.2.2.2.1
theorem dL_law_1673 : decode cL_law 1673 = .ok (.aload_n 1, 1) := dAL_law_118.2.2.2.2.2.2.1
theorem dL_law_1674 : decode cL_law 1674 = .ok (.aload_n 0, 1) := dAL_law_118.2.2.2.2.2.2.2
set_option maxRecDepth 100000 in
theorem dAL_law_119 : decode cL_law 1675 = .ok (.iload 4, 2) ∧ decode cL_law 1677 = .ok (.iconst 1, 1) ∧ decode cL_law 1678 = .ok (.iadd, 1) ∧ decode cL_law 1679 = .ok (.iaload, 1) ∧ decode cL_law 1680 = .ok (.aload_n 0, 1) ∧ decode cL_law 1681 = .ok (.iload 4, 2) ∧ decode cL_law 1683 = .ok (.iconst 2, 1) ∧ decode cL_law 1684 = .ok (.iadd, 1) := by decide +kernel
theorem dL_law_1675 : decode cL_law 1675 = .ok (.iload 4, 2) := dAL_law_119.1
theorem dL_law_1677 : decode cL_law 1677 = .ok (.iconst 1, 1) := dAL_law_119.2.1
theorem dL_law_1678 : decode cL_law 1678 = .ok (.iadd, 1) := dAL_law_119.2.2.1
theorem dL_law_1679 : decode cL_law 1679 = .ok (.iaload, 1) := dAL_law_119.2.2.2.1
theorem dL_law_1680 : decode cL_law 1680 = .ok (.aload_n 0, 1) := dAL_law_119.2.2.2.2.1
theorem dL_law_1681 : decode cL_law 1681 = .ok (.iload 4, 2) := dAL_law_119.2.2.2.2.2.1
theorem dL_law_1683 : decode cL_law 1683 = .ok (.iconst 2, 1) := dAL_law_119.2.2.2.2.2.2.1
theorem dL_law_1684 : decode cL_law 1684 = .ok (.iadd, 1) := dAL_law_119.2.2.2.2.2.2.2
set_option maxRecDepth 100000 in
theorem dAL_law_120 : decode cL_law 1685 = .ok (.iaload, 1) ∧ decode cL_law 1686 = .ok (.invokevirtual 223, 3) ∧ decode cL_law 1689 = .ok (.pop, 1) ∧ decode cL_law 1690 = .ok (.aload_n 2, 1) ∧ decode cL_law 1691 = .ok (.aload_n 0, 1) ∧ decode cL_law 1692 = .ok (.iload 4, 2) ∧ decode cL_law 1694 = .ok (.iconst 1, 1) ∧ decode cL_law 1695 = .ok (.iadd, 1) := by decide +kernel
theorem dL_law_1685 : decode cL_law 1685 = .ok (.iaload, 1) := dAL_law_120.1
theorem dL_law_1686 : decode cL_law 1686 = .ok (.invokevirtual 223, 3) := dAL_law_120.2.1
theorem dL_law_1689 : decode cL_law 1689 = .ok (.pop, 1) := dAL_law_120.2.2.1
theorem dL_law_1690 : decode cL_law 1690 = .ok (.aload_n 2, 1) := dAL_law_120.2.2.2.1
theorem dL_law_1691 : decode cL_law 1691 = .ok (.aload_n 0, 1) := dAL_law_120.2.2.2.2.1
theorem dL_law_1692 : decode cL_law 1692 = .ok (.iload 4, 2) := dAL_law_120.2.2.2.2.2.1
theorem dL_law_1694 : decode cL_law 1694 = .ok (.iconst 1, 1) := dAL_law_120.2.2.2.2.2.2.1
theorem dL_law_1695 : decode cL_law 1695 = .ok (.iadd, 1) := dAL_law_120.2.2.2.2.2.2.2
set_option maxRecDepth 100000 in
theorem dAL_law_121 : decode cL_law 1696 = .ok (.iaload, 1) ∧ decode cL_law 1697 = .ok (.aload_n 0, 1) ∧ decode cL_law 1698 = .ok (.iload 4, 2) ∧ decode cL_law 1700 = .ok (.iconst 2, 1) ∧ decode cL_law 1701 = .ok (.iadd, 1) ∧ decode cL_law 1702 = .ok (.iaload, 1) ∧ decode cL_law 1703 = .ok (.invokevirtual 226, 3) ∧ decode cL_law 1706 = .ok (.pop, 1) := by decide +kernel
theorem dL_law_1696 : decode cL_law 1696 = .ok (.iaload, 1) := dAL_law_121.1
theorem dL_law_1697 : decode cL_law 1697 = .ok (.aload_n 0, 1) := dAL_law_121.2.1
theorem dL_law_1698 : decode cL_law 1698 = .ok (.iload 4, 2) := dAL_law_121.2.2.1
theorem dL_law_1700 : decode cL_law 1700 = .ok (.iconst 2, 1) := dAL_law_121.2.2.2.1
theorem dL_law_1701 : decode cL_law 1701 = .ok (.iadd, 1) := dAL_law_121.2.2.2.2.1
theorem dL_law_1702 : decode cL_law 1702 = .ok (.iaload, 1) := dAL_law_121.2.2.2.2.2.1
theorem dL_law_1703 : decode cL_law 1703 = .ok (.invokevirtual 226, 3) := dAL_law_121.2.2.2.2.2.2.1
theorem dL_law_1706 : decode cL_law 1706 = .ok (.pop, 1) := dAL_law_121.2.2.2.2.2.2.2
set_option maxRecDepth 100000 in
theorem dAL_law_122 : decode cL_law 1707 = .ok (.goto 120, 3) ∧ decode cL_law 1710 = .ok (.aload_n 1, 1) ∧ decode cL_law 1711 = .ok (.invokevirtual 227, 3) ∧ decode cL_law 1714 = .ok (.pop, 1) ∧ decode cL_law 1715 = .ok (.aload_n 2, 1) ∧ decode cL_law 1716 = .ok (.invokevirtual 231, 3) ∧ decode cL_law 1719 = .ok (.pop, 1) ∧ decode cL_law 1720 = .ok (.goto 107, 3) := by decide +kernel
theorem dL_law_1707 : decode cL_law 1707 = .ok (.goto 120, 3) := dAL_law_122.1
theorem dL_law_1710 : decode cL_law 1710 = .ok (.aload_n 1, 1) := dAL_law_122.2.1
theorem dL_law_1711 : decode cL_law 1711 = .ok (.invokevirtual 227, 3) := dAL_law_122.2.2.1
theorem dL_law_1714 : decode cL_law 1714 = .ok (.pop, 1) := dAL_law_122.2.2.2.1
theorem dL_law_1715 : decode cL_law 1715 = .ok (.aload_n 2, 1) := dAL_law_122.2.2.2.2.1
theorem dL_law_1716 : decode cL_law 1716 = .ok (.invokevirtual 231, 3) := dAL_law_122.2.2.2.2.2.1
theorem dL_law_1719 : decode cL_law 1719 = .ok (.pop, 1) := dAL_law_122.2.2.2.2.2.2.1
theorem dL_law_1720 : decode cL_law 1720 = .ok (.goto 107, 3) := dAL_law_122.2.2.2.2.2.2.2
set_option maxRecDepth 100000 in
theorem dAL_law_123 : decode cL_law 1723 = .ok (.aload_n 1, 1) ∧ decode cL_law 1724 = .ok (.invokevirtual 232, 3) ∧ decode cL_law 1727 = .ok (.pop, 1) ∧ decode cL_law 1728 = .ok (.aload_n 2, 1) ∧ decode cL_law 1729 = .ok (.invokevirtual 235, 3) ∧ decode cL_law 1732 = .ok (.pop, 1) ∧ decode cL_law 1733 = .ok (.goto 94, 3) ∧ decode cL_law 1736 = .ok (.aload_n 1, 1) := by decide +kernel
theorem dL_law_1723 : decode cL_law 1723 = .ok (.aload_n 1, 1) := dAL_law_123.1
theorem dL_law_1724 : decode cL_law 1724 = .ok (.invokevirtual 232, 3) := dAL_law_123.2.1
theorem dL_law_1727 : decode cL_law 1727 = .ok (.pop, 1) := dAL_law_123.2.2.1
theorem dL_law_1728 : decode cL_law 1728 = .ok (.aload_n 2, 1) := dAL_law_123.2.2.2.1
theorem dL_law_1729 : decode cL_law 1729 = .ok (.invokevirtual 235, 3) := dAL_law_123.2.2.2.2.1
theorem dL_law_1732 : decode cL_law 1732 = .ok (.pop, 1) := dAL_law_123.2.2.2.2.2.1
theorem dL_law_1733 : decode cL_law 1733 = .ok (.goto 94, 3) := dAL_law_123.2.2.2.2.2.2.1
theorem dL_law_1736 : decode cL_law 1736 = .ok (.aload_n 1, 1) := dAL_law_123.2.2.2.2.2.2.2
set_option maxRecDepth 100000 in
theorem dAL_law_124 : decode cL_law 1737 = .ok (.aload_n 0, 1) ∧ decode cL_law 1738 = .ok (.iload 4, 2) ∧ decode cL_law 1740 = .ok (.iconst 1, 1) ∧ decode cL_law 1741 = .ok (.iadd, 1) ∧ decode cL_law 1742 = .ok (.iaload, 1) ∧ decode cL_law 1743 = .ok (.invokevirtual 236, 3) ∧ decode cL_law 1746 = .ok (.pop, 1) ∧ decode cL_law 1747 = .ok (.aload_n 2, 1) := by decide +kernel
theorem dL_law_1737 : decode cL_law 1737 = .ok (.aload_n 0, 1) := dAL_law_124.1
theorem dL_law_1738 : decode cL_law 1738 = .ok (.iload 4, 2) := dAL_law_124.2.1
theorem dL_law_1740 : decode cL_law 1740 = .ok (.iconst 1, 1) := dAL_law_124.2.2.1
theorem dL_law_1741 : decode cL_law 1741 = .ok (.iadd, 1) := dAL_law_124.2.2.2.1
theorem dL_law_1742 : decode cL_law 1742 = .ok (.iaload, 1) := dAL_law_124.2.2.2.2.1
theorem dL_law_1743 : decode cL_law 1743 = .ok (.invokevirtual 236, 3) := dAL_law_124.2.2.2.2.2.1
theorem dL_law_1746 : decode cL_law 1746 = .ok (.pop, 1) := dAL_law_124.2.2.2.2.2.2.1
theorem dL_law_1747 : decode cL_law 1747 = .ok (.aload_n 2, 1) := dAL_law_124.2.2.2.2.2.2.2
set_option maxRecDepth 100000 in
theorem dAL_law_125 : decode cL_law 1748 = .ok (.aload_n 0, 1) ∧ decode cL_law 1749 = .ok (.iload 4, 2) ∧ decode cL_law 1751 = .ok (.iconst 1, 1) ∧ decode cL_law 1752 = .ok (.iadd, 1) ∧ decode cL_law 1753 = .ok (.iaload, 1) ∧ decode cL_law 1754 = .ok (.invokevirtual 240, 3) ∧ decode cL_law 1757 = .ok (.pop, 1) ∧ decode cL_law 1758 = .ok (.goto 69, 3) := by decide +kernel
theorem dL_law_1748 : decode cL_law 1748 = .ok (.aload_n 0, 1) := dAL_law_125.1
theorem dL_law_1749 : decode cL_law 1749 = .ok (.iload 4, 2) := dAL_law_125.2.1
theorem dL_law_1751 : decode cL_law 1751 = .ok (.iconst 1, 1) := dAL_law_125.2.2.1
theorem dL_law_1752 : decode cL_law 1752 = .ok (.iadd, 1) := dAL_law_125.2.2.2.1
theorem dL_law_1753 : decode cL_law 1753 = .ok (.iaload, 1) := dAL_law_125.2.2.2.2.1
theorem dL_law_1754 : decode cL_law 1754 = .ok (.invokevirtual 240, 3) := dAL_law_125.2.2.2.2.2.1
theorem dL_law_1757 : decode cL_law 1757 = .ok (.pop, 1) := dAL_law_125.2.2.2.2.2.2.1
theorem dL_law_1758 : decode cL_law 1758 = .ok (.goto 69, 3) := dAL_law_125.2.2.2.2.2.2.2
set_option maxRecDepth 100000 in
theorem dAL_law_126 : decode cL_law 1761 = .ok (.aload_n 1, 1) ∧ decode cL_law 1762 = .ok (.aload_n 0, 1) ∧ decode cL_law 1763 = .ok (.iload 4, 2) ∧ decode cL_law 1765 = .ok (.iconst 1, 1) ∧ decode cL_law 1766 = .ok (.iadd, 1) ∧ decode cL_law 1767 = .ok (.iaload, 1) ∧ decode cL_law 1768 = .ok (.aload_n 3, 1) ∧ decode cL_law 1769 = .ok (.invokestatic 241, 3) := by decide +kernel
theorem dL_law_1761 : decode cL_law 1761 = .ok (.aload_n 1, 1) := dAL_law_126.1
theorem dL_law_1762 : decode cL_law 1762 = .ok (.aload_n 0, 1) := dAL_law_126.2.1
theorem dL_law_1763 : decode cL_law 1763 = .ok (.iload 4, 2) := dAL_law_126.2.2.1
theorem dL_law_1765 : decode cL_law 1765 = .ok (.iconst 1, 1) := dAL_law_126.2.2.2.1
theorem dL_law_1766 : decode cL_law 1766 = .ok (.iadd, 1) := dAL_law_126.2.2.2.2.1
theorem dL_law_1767 : decode cL_law 1767 = .ok (.iaload, 1) := dAL_law_126.2.2.2.2.2.1
theorem dL_law_1768 : decode cL_law 1768 = .ok (.aload_n 3, 1) := dAL_law_126.2.2.2.2.2.2.1
theorem dL_law_1769 : decode cL_law 1769 = .ok (.invokestatic 241, 3) := dAL_law_126.2.2.2.2.2.2.2
set_option maxRecDepth 100000 in
theorem dAL_law_127 : decode cL_law 1772 = .ok (.istore 5, 2) ∧ decode cL_law 1774 = .ok (.aload_n 2, 1) ∧ decode cL_law 1775 = .ok (.aload_n 0, 1) ∧ decode cL_law 1776 = .ok (.iload 4, 2) ∧ decode cL_law 1778 = .ok (.iconst 1, 1) ∧ decode cL_law 1779 = .ok (.iadd, 1) ∧ decode cL_law 1780 = .ok (.iaload, 1) ∧ decode cL_law 1781 = .ok (.invokevirtual 246, 3) := by decide +kernel
theorem dL_law_1772 : decode cL_law 1772 = .ok (.istore 5, 2) := dAL_law_127.1
theorem dL_law_1774 : decode cL_law 1774 = .ok (.aload_n 2, 1) := dAL_law_127.2.1
theorem dL_law_1775 : decode cL_law 1775 = .ok (.aload_n 0, 1) := dAL_law_127.2.2.1
theorem dL_law_1776 : decode cL_law 1776 = .ok (.iload 4, 2) := dAL_law_127.2.2.2.1
theorem dL_law_1778 : decode cL_law 1778 = .ok (.iconst 1, 1) := dAL_law_127.2.2.2.2.1
theorem dL_law_1779 : decode cL_law 1779 = .ok (.iadd, 1) := dAL_law_127.2.2.2.2.2.1
theorem dL_law_1780 : decode cL_law 1780 = .ok (.iaload, 1) := dAL_law_127.2.2.2.2.2.2.1
theorem dL_law_1781 : decode cL_law 1781 = .ok (.invokevirtual 246, 3) := dAL_law_127.2.2.2.2.2.2.2
set_option maxRecDepth 100000 in
theorem dAL_law_128 : decode cL_law 1784 = .ok (.istore 6, 2) ∧ decode cL_law 1786 = .ok (.goto 41, 3) ∧ decode cL_law 1789 = .ok (.aload_n 1, 1) ∧ decode cL_law 1790 = .ok (.aload_n 0, 1) ∧ decode cL_law 1791 = .ok (.iload 4, 2) ∧ decode cL_law 1793 = .ok (.iconst 1, 1) ∧ decode cL_law 1794 = .ok (.iadd, 1) ∧ decode cL_law 1795 = .ok (.iaload, 1) := by decide +kernel
theorem dL_law_1784 : decode cL_law 1784 = .ok (.istore 6, 2) := dAL_law_128.1
theorem dL_law_1786 : decode cL_law 1786 = .ok (.goto 41, 3) := dAL_law_128.2.1
theorem dL_law_1789 : decode cL_law 1789 = .ok (.aload_n 1, 1) := dAL_law_128.2.2.1
theorem dL_law_1790 : decode cL_law 1790 = .ok (.aload_n 0, 1) := dAL_law_128.2.2.2.1
theorem dL_law_1791 : decode cL_law 1791 = .ok (.iload 4, 2) := dAL_law_128.2.2.2.2.1
theorem dL_law_1793 : decode cL_law 1793 = .ok (.iconst 1, 1) := dAL_law_128.2.2.2.2.2.1
theorem dL_law_1794 : decode cL_law 1794 = .ok (.iadd, 1) := dAL_law_128.2.2.2.2.2.2.1
theorem dL_law_1795 : decode cL_law 1795 = .ok (.iaload, 1) := dAL_law_128.2.2.2.2.2.2.2
set_option maxRecDepth 100000 in
theorem dAL_law_129 : decode cL_law 1796 = .ok (.invokevirtual 247, 3) ∧ decode cL_law 1799 = .ok (.pop, 1) ∧ decode cL_law 1800 = .ok (.aload_n 2, 1) ∧ decode cL_law 1801 = .ok (.aload_n 0, 1) ∧ decode cL_law 1802 = .ok (.iload 4, 2) ∧ decode cL_law 1804 = .ok (.iconst 1, 1) ∧ decode cL_law 1805 = .ok (.iadd, 1) ∧ decode cL_law 1806 = .ok (.iaload, 1) := by decide +kernel
theorem dL_law_1796 : decode cL_law 1796 = .ok (.invokevirtual 247, 3) := dAL_law_129.1
theorem dL_law_1799 : decode cL_law 1799 = .ok (.pop, 1) := dAL_law_129.2.1
theorem dL_law_1800 : decode cL_law 1800 = .ok (.aload_n 2, 1) := dAL_law_129.2.2.1
theorem dL_law_1801 : decode cL_law 1801 = .ok (.aload_n 0, 1) := dAL_law_129.2.2.2.1
theorem dL_law_1802 : decode cL_law 1802 = .ok (.iload 4, 2) := dAL_law_129.2.2.2.2.1
theorem dL_law_1804 : decode cL_law 1804 = .ok (.iconst 1, 1) := dAL_law_129.2.2.2.2.2.1
theorem dL_law_1805 : decode cL_law 1805 = .ok (.iadd, 1) := dAL_law_129.2.2.2.2.2.2.1
theorem dL_law_1806 : decode cL_law 1806 = .ok (.iaload, 1) := dAL_law_129.2.2.2.2.2.2.2
set_option maxRecDepth 100000 in
theorem dAL_law_130 : decode cL_law 1807 = .ok (.invokevirtual 250, 3) ∧ decode cL_law 1810 = .ok (.pop, 1) ∧ decode cL_law 1811 = .ok (.goto 16, 3) ∧ decode cL_law 1814 = .ok (.aload_n 1, 1) ∧ decode cL_law 1815 = .ok (.invokevirtual 251, 3) ∧ decode cL_law 1818 = .ok (.pop, 1) ∧ decode cL_law 1819 = .ok (.aload_n 2, 1) ∧ decode cL_law 1820 = .ok (.invokevirtual 254, 3) := by decide +kernel
theorem dL_law_1807 : decode cL_law 1807 = .ok (.invokevirtual 250, 3) := dAL_law_130.1
theorem dL_law_1810 : decode cL_law 1810 = .ok (.pop, 1) := dAL_law_130.2.1
theorem dL_law_1811 : decode cL_law 1811 = .ok (.goto 16, 3) := dAL_law_130.2.2.1
theorem dL_law_1814 : decode cL_law 1814 = .ok (.aload_n 1, 1) := dAL_law_130.2.2.2.1
theorem dL_law_1815 : decode cL_law 1815 = .ok (.invokevirtual 251, 3) := dAL_law_130.2.2.2.2.1
theorem dL_law_1818 : decode cL_law 1818 = .ok (.pop, 1) := dAL_law_130.2.2.2.2.2.1
theorem dL_law_1819 : decode cL_law 1819 = .ok (.aload_n 2, 1) := dAL_law_130.2.2.2.2.2.2.1
theorem dL_law_1820 : decode cL_law 1820 = .ok (.invokevirtual 254, 3) := dAL_law_130.2.2.2.2.2.2.2
set_option maxRecDepth 100000 in
theorem dAL_law_131 : decode cL_law 1823 = .ok (.pop, 1) ∧ decode cL_law 1824 = .ok (.goto 3, 3) ∧ decode cL_law 1827 = .ok (.iinc 4 6, 3) ∧ decode cL_law 1830 = .ok (.goto (-1807), 3) ∧ decode cL_law 1833 = .ok (.iconst 1, 1) ∧ decode cL_law 1834 = .ok (.ireturn, 1) := by decide +kernel
theorem dL_law_1823 : decode cL_law 1823 = .ok (.pop, 1) := dAL_law_131.1
theorem dL_law_1824 : decode cL_law 1824 = .ok (.goto 3, 3) := dAL_law_131.2.1
theorem dL_law_1827 : decode cL_law 1827 = .ok (.iinc 4 6, 3) := dAL_law_131.2.2.1
theorem dL_law_1830 : decode cL_law 1830 = .ok (.goto (-1807), 3) := dAL_law_131.2.2.2.1
theorem dL_law_1833 : decode cL_law 1833 = .ok (.iconst 1, 1) := dAL_law_131.2.2.2.2.1
theorem dL_law_1834 : decode cL_law 1834 = .ok (.ireturn, 1) := dAL_law_131.2.2.2.2.2
set_option maxRecDepth 100000 in
theorem dAL_led_0 : decode cL_led 0 = .ok (.aload_n 2, 1) ∧ decode cL_led 1 = .ok (.iconst 0, 1) ∧ decode cL_led 2 = .ok (.aload_n 0, 1) ∧ decode cL_led 3 = .ok (.iload_n 1, 1) ∧ decode cL_led 4 = .ok (.invokevirtual 7, 3) ∧ decode cL_led 7 = .ok (.i2l, 1) ∧ decode cL_led 8 = .ok (.lastore, 1) ∧ decode cL_led 9 = .ok (.goto 6, 3) := by decide +kernel
theorem dL_led_0 : decode cL_led 0 = .ok (.aload_n 2, 1) := dAL_led_0.1
theorem dL_led_1 : decode cL_led 1 = .ok (.iconst 0, 1) := dAL_led_0.2.1
theorem dL_led_2 : decode cL_led 2 = .ok (.aload_n 0, 1) := dAL_led_0.2.2.1
theorem dL_led_3 : decode cL_led 3 = .ok (.iload_n 1, 1) := dAL_led_0.2.2.2.1
theorem dL_led_4 : decode cL_led 4 = .ok (.invokevirtual 7, 3) := dAL_led_0.2.2.2.2.1
theorem dL_led_7 : decode cL_led 7 = .ok (.i2l, 1) := dAL_led_0.2.2.2.2.2.1
theorem dL_led_8 : decode cL_led 8 = .ok (.lastore, 1) := dAL_led_0.2.2.2.2.2.2.1
theorem dL_led_9 : decode cL_led 9 = .ok (.goto 6, 3) := dAL_led_0.2.2.2.2.2.2.2
set_option maxRecDepth 100000 in
theorem dAL_led_1 : decode cL_led 12 = .ok (.astore_n 3, 1) ∧ decode cL_led 13 = .ok (.iconst 1, 1) ∧ decode cL_led 14 = .ok (.ireturn, 1) ∧ decode cL_led 15 = .ok (.iconst 0, 1) ∧ decode cL_led 16 = .ok (.ireturn, 1) := by decide +kernel
theorem dL_led_12 : decode cL_led 12 = .ok (.astore_n 3, 1) := dAL_led_1.1
theorem dL_led_13 : decode cL_led 13 = .ok (.iconst 1, 1) := dAL_led_1.2.1
theorem dL_led_14 : decode cL_led 14 = .ok (.ireturn, 1) := dAL_led_1.2.2.1
theorem dL_led_15 : decode cL_led 15 = .ok (.iconst 0, 1) := dAL_led_1.2.2.2.1
theorem dL_led_16 : decode cL_led 16 = .ok (.ireturn, 1) := dAL_led_1.2.2.2.2
