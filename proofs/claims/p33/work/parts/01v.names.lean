theorem dL_areGiven_262 : decode cL_areGiven 262 = .ok (.iinc 7 1, 3) := by decide +kernel
theorem dL_areGiven_265 : decode cL_areGiven 265 = .ok (.goto (-92), 3) := by decide +kernel
theorem dL_areGiven_268 : decode cL_areGiven 268 = .ok (.iconst 1, 1) := by decide +kernel
theorem dL_areGiven_269 : decode cL_areGiven 269 = .ok (.istore 7, 2) := by decide +kernel
theorem dL_areGiven_271 : decode cL_areGiven 271 = .ok (.iload 7, 2) := by decide +kernel
theorem dL_areGiven_273 : decode cL_areGiven 273 = .ok (.iload 4, 2) := by decide +kernel
theorem dL_areGiven_275 : decode cL_areGiven 275 = .ok (.if_icmp .ge 76, 3) := by decide +kernel
theorem dL_areGiven_278 : decode cL_areGiven 278 = .ok (.iload 6, 2) := by decide +kernel
theorem dL_areGiven_280 : decode cL_areGiven 280 = .ok (.ifCond .eq 71, 3) := by decide +kernel
theorem dL_areGiven_283 : decode cL_areGiven 283 = .ok (.aload_n 0, 1) := by decide +kernel
theorem dL_areGiven_284 : decode cL_areGiven 284 = .ok (.iload 7, 2) := by decide +kernel
theorem dL_areGiven_286 : decode cL_areGiven 286 = .ok (.iconst 1, 1) := by decide +kernel
theorem dL_areGiven_287 : decode cL_areGiven 287 = .ok (.isub, 1) := by decide +kernel
theorem dL_areGiven_288 : decode cL_areGiven 288 = .ok (.invokestatic 136, 3) := by decide +kernel
theorem dL_areGiven_291 : decode cL_areGiven 291 = .ok (.istore 8, 2) := by decide +kernel
theorem dL_areGiven_293 : decode cL_areGiven 293 = .ok (.aload_n 0, 1) := by decide +kernel
theorem dL_areGiven_294 : decode cL_areGiven 294 = .ok (.iload 7, 2) := by decide +kernel
theorem dL_areGiven_296 : decode cL_areGiven 296 = .ok (.invokestatic 136, 3) := by decide +kernel
theorem dL_areGiven_299 : decode cL_areGiven 299 = .ok (.istore 9, 2) := by decide +kernel
theorem dL_areGiven_301 : decode cL_areGiven 301 = .ok (.aload_n 0, 1) := by decide +kernel
theorem dL_areGiven_302 : decode cL_areGiven 302 = .ok (.iload 8, 2) := by decide +kernel
theorem dL_areGiven_304 : decode cL_areGiven 304 = .ok (.invokestatic 108, 3) := by decide +kernel
theorem dL_areGiven_307 : decode cL_areGiven 307 = .ok (.aload_n 0, 1) := by decide +kernel
theorem dL_areGiven_308 : decode cL_areGiven 308 = .ok (.iload 9, 2) := by decide +kernel
theorem dL_areGiven_310 : decode cL_areGiven 310 = .ok (.invokestatic 108, 3) := by decide +kernel
theorem dL_areGiven_313 : decode cL_areGiven 313 = .ok (.if_icmp .lt 25, 3) := by decide +kernel
theorem dL_areGiven_316 : decode cL_areGiven 316 = .ok (.aload_n 0, 1) := by decide +kernel
theorem dL_areGiven_317 : decode cL_areGiven 317 = .ok (.iload 8, 2) := by decide +kernel
theorem dL_areGiven_319 : decode cL_areGiven 319 = .ok (.invokestatic 108, 3) := by decide +kernel
theorem dL_areGiven_322 : decode cL_areGiven 322 = .ok (.aload_n 0, 1) := by decide +kernel
theorem dL_areGiven_323 : decode cL_areGiven 323 = .ok (.iload 9, 2) := by decide +kernel
theorem dL_areGiven_325 : decode cL_areGiven 325 = .ok (.invokestatic 108, 3) := by decide +kernel
theorem dL_areGiven_328 : decode cL_areGiven 328 = .ok (.if_icmp .ne 14, 3) := by decide +kernel
theorem dL_areGiven_331 : decode cL_areGiven 331 = .ok (.iload 8, 2) := by decide +kernel
theorem dL_areGiven_333 : decode cL_areGiven 333 = .ok (.iload 9, 2) := by decide +kernel
theorem dL_areGiven_335 : decode cL_areGiven 335 = .ok (.if_icmp .ge 7, 3) := by decide +kernel
theorem dL_areGiven_338 : decode cL_areGiven 338 = .ok (.iconst 1, 1) := by decide +kernel
theorem dL_areGiven_339 : decode cL_areGiven 339 = .ok (.goto 4, 3) := by decide +kernel
theorem dL_areGiven_342 : decode cL_areGiven 342 = .ok (.iconst 0, 1) := by decide +kernel
theorem dL_areGiven_343 : decode cL_areGiven 343 = .ok (.istore 6, 2) := by decide +kernel
theorem dL_areGiven_345 : decode cL_areGiven 345 = .ok (.iinc 7 1, 3) := by decide +kernel
theorem dL_areGiven_348 : decode cL_areGiven 348 = .ok (.goto (-77), 3) := by decide +kernel
theorem dL_areGiven_351 : decode cL_areGiven 351 = .ok (.iload 6, 2) := by decide +kernel
theorem dL_areGiven_353 : decode cL_areGiven 353 = .ok (.ifCond .eq 69, 3) := by decide +kernel
theorem dL_areGiven_356 : decode cL_areGiven 356 = .ok (.aload_n 0, 1) := by decide +kernel
theorem dL_areGiven_357 : decode cL_areGiven 357 = .ok (.invokevirtual 138, 3) := by decide +kernel
theorem dL_areGiven_360 : decode cL_areGiven 360 = .ok (.iload 4, 2) := by decide +kernel
theorem dL_areGiven_362 : decode cL_areGiven 362 = .ok (.if_icmp .ne 60, 3) := by decide +kernel
theorem dL_areGiven_365 : decode cL_areGiven 365 = .ok (.aload_n 0, 1) := by decide +kernel
theorem dL_areGiven_366 : decode cL_areGiven 366 = .ok (.invokevirtual 141, 3) := by decide +kernel
theorem dL_areGiven_369 : decode cL_areGiven 369 = .ok (.iload 5, 2) := by decide +kernel
theorem dL_areGiven_371 : decode cL_areGiven 371 = .ok (.if_icmp .ne 51, 3) := by decide +kernel
theorem dL_areGiven_374 : decode cL_areGiven 374 = .ok (.aload_n 0, 1) := by decide +kernel
theorem dL_areGiven_375 : decode cL_areGiven 375 = .ok (.iload 4, 2) := by decide +kernel
theorem dL_areGiven_377 : decode cL_areGiven 377 = .ok (.invokestatic 136, 3) := by decide +kernel
theorem dL_areGiven_380 : decode cL_areGiven 380 = .ok (.ldc 51, 2) := by decide +kernel
theorem dL_areGiven_382 : decode cL_areGiven 382 = .ok (.if_icmp .ne 40, 3) := by decide +kernel
theorem dL_areGiven_385 : decode cL_areGiven 385 = .ok (.aload_n 0, 1) := by decide +kernel
theorem dL_areGiven_386 : decode cL_areGiven 386 = .ok (.iconst (-1), 1) := by decide +kernel
theorem dL_areGiven_387 : decode cL_areGiven 387 = .ok (.invokestatic 136, 3) := by decide +kernel
theorem dL_areGiven_390 : decode cL_areGiven 390 = .ok (.ldc 51, 2) := by decide +kernel
theorem dL_areGiven_392 : decode cL_areGiven 392 = .ok (.if_icmp .ne 30, 3) := by decide +kernel
theorem dL_areGiven_395 : decode cL_areGiven 395 = .ok (.aload_n 0, 1) := by decide +kernel
theorem dL_areGiven_396 : decode cL_areGiven 396 = .ok (.iconst 4, 1) := by decide +kernel
theorem dL_areGiven_397 : decode cL_areGiven 397 = .ok (.iconst 0, 1) := by decide +kernel
theorem dL_areGiven_398 : decode cL_areGiven 398 = .ok (.invokestatic 134, 3) := by decide +kernel
theorem dL_areGiven_401 : decode cL_areGiven 401 = .ok (.ldc 18, 2) := by decide +kernel
theorem dL_areGiven_403 : decode cL_areGiven 403 = .ok (.if_icmp .ne 19, 3) := by decide +kernel
theorem dL_areGiven_406 : decode cL_areGiven 406 = .ok (.aload_n 0, 1) := by decide +kernel
theorem dL_areGiven_407 : decode cL_areGiven 407 = .ok (.iconst 0, 1) := by decide +kernel
theorem dL_areGiven_408 : decode cL_areGiven 408 = .ok (.bipush 8, 2) := by decide +kernel
theorem dL_areGiven_410 : decode cL_areGiven 410 = .ok (.invokestatic 134, 3) := by decide +kernel
theorem dL_areGiven_413 : decode cL_areGiven 413 = .ok (.ldc 18, 2) := by decide +kernel
theorem dL_areGiven_415 : decode cL_areGiven 415 = .ok (.if_icmp .ne 7, 3) := by decide +kernel
theorem dL_areGiven_418 : decode cL_areGiven 418 = .ok (.iconst 1, 1) := by decide +kernel
theorem dL_areGiven_419 : decode cL_areGiven 419 = .ok (.goto 4, 3) := by decide +kernel
theorem dL_areGiven_422 : decode cL_areGiven 422 = .ok (.iconst 0, 1) := by decide +kernel
theorem dL_areGiven_423 : decode cL_areGiven 423 = .ok (.ireturn, 1) := by decide +kernel
set_option maxRecDepth 20000 in
theorem ggL_arePriced_L_danger : GoodIn wsL_arePriced wsL_danger := goodIn_ca (goodIn_r _ [5, 6, 7, 8, 9, 10, 11, 12, 13, 14, 15, 16, 17, 18, 19, 20, 21, 22, 23, 24, 25, 26, 27, 28, 29, 30, 31, 32, 33, 34, 35, 36, 37, 38, 39, 40, 41, 42, 43, 44, 45, 46, 47, 48, 49, 50, 51, 52, 53, 54, 55, 56, 57, 58, 59, 60, 61, 62, 63, 64, 65, 66, 67, 68, 69, 70, 71, 72, 73, 74, 75, 76, 77, 78, 79, 80, 81, 82, 83, 84, 85, 86, 87, 88, 89, 90, 91, 92, 93, 94, 95, 96, 97, 98, 99, 100, 101, 102, 103, 104, 105, 106, 107, 108, 109, 110, 111, 112, 113, 114, 115, 116, 117, 118, 119, 120, 121, 122, 123, 124, 125, 126, 127, 128, 129, 130, 131, 132, 133, 134, 135, 136, 137, 138, 139, 140, 141, 142, 143, 144, 145, 146, 147, 148, 149, 190, 191, 192, 193, 194, 195, 196, 197, 198, 199, 200, 201, 202, 203, 204, 205, 206, 207, 208, 209, 210, 211, 212, 213, 214, 215, 216, 217, 218, 219, 220, 221, 222, 223, 224, 225, 226, 227, 228, 229, 230, 231, 232, 233, 234] (by decide +kernel) (by decide +kernel)) (goodIn_sub (fun _ h => List.mem_cons_of_mem _ (List.mem_append_right _ h)) (by decide +kernel))
set_option maxRecDepth 20000 in
theorem gL_arePriced_L_danger : GoodIn wsL_arePriced (va_wsS RL 117 yL_danger wsL_danger) := goodIn_app (goodIn_of _ (by decide +kernel)) ggL_arePriced_L_danger
set_option maxRecDepth 20000 in
theorem ggL_arePriced_L_fires : GoodIn wsL_arePriced wsL_fires := goodIn_ca (goodIn_r _ [152, 6, 153, 154, 155, 156, 11, 157, 119, 14, 15, 16, 17, 18, 19, 20, 21, 22, 23, 24, 25, 26, 27, 28, 29, 30, 31, 32, 33, 34, 35, 36, 37, 38, 39, 40, 13, 41, 42, 43, 44, 45, 46, 47, 48, 49, 50, 51, 52, 53, 54, 55, 56, 57, 58, 59, 60, 61, 62, 63, 64, 65, 66, 67, 68, 69, 70, 71, 72, 73, 74, 75, 76, 77, 78, 79, 80, 81, 82, 83, 84, 85, 86, 87, 88, 89, 90, 91, 92, 93, 94, 95, 96, 97, 98, 99, 100, 101, 102, 103, 104, 105, 106, 107, 108, 109, 110, 111, 112, 113, 114, 115, 116, 117, 118, 120, 121, 122, 123, 124, 125, 126, 127, 128, 129, 130, 131, 132, 133, 134, 135, 136, 137, 138, 139, 140, 141, 142, 143, 144, 145, 146, 147, 148, 149, 190, 191, 192, 193, 194, 195, 196, 197, 198, 199, 200, 201, 202, 203, 204, 205, 206, 207, 208, 209, 210, 211, 212, 213, 214, 215, 216, 217, 218, 219, 220, 221, 222, 223, 224, 225, 226, 227, 228, 229, 230, 231, 232, 233, 234] (by decide +kernel) (by decide +kernel)) (goodIn_sub (fun _ h => List.mem_cons_of_mem _ (List.mem_append_right _ h)) (by decide +kernel))
set_option maxRecDepth 20000 in
theorem gL_arePriced_L_fires : GoodIn wsL_arePriced (va_wsS RL 108 yL_fires wsL_fires) := goodIn_app (goodIn_of _ (by decide +kernel)) ggL_arePriced_L_fires
set_option maxRecDepth 20000 in
theorem ggL_arePriced_L_becomes : GoodIn wsL_arePriced wsL_becomes := goodIn_ca (goodIn_r _ [160, 6, 153, 161, 162, 163, 11, 164, 41, 14, 15, 16, 17, 18, 19, 20, 21, 22, 23, 24, 25, 26, 27, 28, 29, 30, 31, 32, 33, 34, 35, 36, 37, 38, 39, 40, 13, 42, 43, 44, 45, 46, 47, 48, 49, 50, 51, 52, 53, 54, 55, 56, 57, 58, 59, 60, 61, 62, 63, 64, 65, 66, 67, 68, 69, 70, 71, 72, 73, 74, 75, 76, 77, 78, 79, 80, 81, 82, 83, 84, 85, 86, 87, 88, 89, 90, 91, 92, 93, 94, 95, 96, 97, 98, 99, 100, 101, 102, 103, 104, 105, 106, 107, 108, 109, 110, 111, 112, 113, 114, 115, 116, 117, 118, 119, 120, 121, 122, 123, 124, 125, 126, 127, 128, 129, 130, 131, 132, 133, 134, 135, 136, 137, 138, 139, 140, 141, 142, 143, 144, 145, 146, 147, 148, 149, 190, 191, 192, 193, 194, 195, 196, 197, 198, 199, 200, 201, 202, 203, 204, 205, 206, 207, 208, 209, 210, 211, 212, 213, 214, 215, 216, 217, 218, 219, 220, 221, 222, 223, 224, 225, 226, 227, 228, 229, 230, 231, 232, 233, 234] (by decide +kernel) (by decide +kernel)) (goodIn_sub (fun _ h => List.mem_cons_of_mem _ (List.mem_append_right _ h)) (by decide +kernel))
set_option maxRecDepth 20000 in
theorem gL_arePriced_L_becomes : GoodIn wsL_arePriced (va_wsS RL 101 yL_becomes wsL_becomes) := goodIn_app (goodIn_of _ (by decide +kernel)) ggL_arePriced_L_becomes
set_option maxRecDepth 20000 in
theorem ggL_arePriced_L_price : GoodIn wsL_arePriced wsL_price := goodIn_ca (goodIn_r _ [167, 6, 153, 168, 169, 170, 11, 171, 41, 14, 15, 16, 17, 18, 19, 20, 21, 22, 23, 24, 25, 26, 27, 28, 29, 30, 31, 32, 33, 34, 35, 36, 37, 38, 39, 40, 13, 42, 43, 44, 45, 46, 47, 48, 49, 50, 51, 52, 53, 54, 55, 56, 57, 58, 59, 60, 61, 62, 63, 64, 65, 66, 67, 68, 69, 70, 71, 72, 73, 74, 75, 76, 77, 78, 79, 80, 81, 82, 83, 84, 85, 86, 87, 88, 89, 90, 91, 92, 93, 94, 95, 96, 97, 98, 99, 100, 101, 102, 103, 104, 105, 106, 107, 108, 109, 110, 111, 112, 113, 114, 115, 116, 117, 118, 119, 120, 121, 122, 123, 124, 125, 126, 127, 128, 129, 130, 131, 132, 133, 134, 135, 136, 137, 138, 139, 140, 141, 142, 143, 144, 145, 146, 147, 148, 149, 172, 173, 174, 175, 176, 177, 178, 179, 180, 181, 182, 183, 184, 185, 190, 191, 192, 193, 194, 195, 196, 197, 198, 199, 200, 201, 202, 203, 204, 205, 206, 207, 208, 209, 210, 211, 212, 213, 214, 215, 216, 217, 218, 219, 220, 221, 222, 223, 224, 225, 226, 227, 228, 229, 230, 231, 232, 233, 234] (by decide +kernel) (by decide +kernel)) (goodIn_sub (fun _ h => List.mem_cons_of_mem _ (List.mem_append_right _ h)) (by decide +kernel))
set_option maxRecDepth 20000 in
theorem gL_arePriced_L_price : GoodIn wsL_arePriced (va_wsS RL 122 yL_price wsL_price) := goodIn_app (goodIn_of _ (by decide +kernel)) ggL_arePriced_L_price
set_option maxRecDepth 20000 in
theorem ggL_arePriced_X9_total : GoodIn wsL_arePriced wsX9_total := goodIn_r _ [189, 113, 125, 28, 29, 30, 11, 31, 32, 33, 24, 34, 35, 36, 37, 38, 39, 40, 13, 41, 42, 43, 44, 45, 46, 47, 48, 49, 50, 51, 52, 53, 54, 55, 56, 57, 58, 59, 60, 61, 62, 63, 64, 65, 66, 67, 68, 69, 70, 71, 72, 73, 74, 75, 76, 77, 78, 79, 80, 81, 82, 83, 84, 85, 86, 87, 88, 89, 90, 91, 92, 93, 94, 95, 96, 97, 98, 99, 100, 101, 102, 103, 104, 105, 106, 107, 108, 109, 110, 111, 112, 114, 115, 116, 117, 118, 119, 120, 121, 122, 123, 124, 126, 127, 128, 129, 130, 131, 132, 133, 134, 135, 136, 137, 138, 139, 140, 141, 142, 143, 144, 145, 146, 147, 148, 149, 172, 173, 174, 175, 176, 177, 178, 179, 180, 181, 182, 183, 184, 185, 199, 200, 201, 202, 203, 204, 205, 206, 207, 208, 209, 210, 211, 212, 213, 190, 191, 192, 193, 194, 195, 196, 197, 198, 214, 215, 216, 217, 218, 219, 220, 221, 222, 223, 224, 225, 226, 227, 228, 229, 230, 231, 232, 233, 234] (by decide +kernel) (by decide +kernel)
set_option maxRecDepth 20000 in
theorem gL_arePriced_X9_total : GoodIn wsL_arePriced (wsV RL 146 RX9 yX9_total wsX9_total) := goodIn_app (goodIn_of _ (by decide +kernel)) ggL_arePriced_X9_total
theorem dL_arePriced_0 : decode cL_arePriced 0 = .ok (.lconst 0, 1) := by decide +kernel
theorem dL_arePriced_1 : decode cL_arePriced 1 = .ok (.lstore 5, 2) := by decide +kernel
theorem dL_arePriced_3 : decode cL_arePriced 3 = .ok (.iconst 0, 1) := by decide +kernel
theorem dL_arePriced_4 : decode cL_arePriced 4 = .ok (.istore 7, 2) := by decide +kernel
theorem dL_arePriced_6 : decode cL_arePriced 6 = .ok (.iload 7, 2) := by decide +kernel
theorem dL_arePriced_8 : decode cL_arePriced 8 = .ok (.aload 4, 2) := by decide +kernel
theorem dL_arePriced_10 : decode cL_arePriced 10 = .ok (.iconst 0, 1) := by decide +kernel
theorem dL_arePriced_11 : decode cL_arePriced 11 = .ok (.iaload, 1) := by decide +kernel
theorem dL_arePriced_12 : decode cL_arePriced 12 = .ok (.if_icmp .ge 183, 3) := by decide +kernel
theorem dL_arePriced_15 : decode cL_arePriced 15 = .ok (.aload_n 1, 1) := by decide +kernel
theorem dL_arePriced_16 : decode cL_arePriced 16 = .ok (.iload 7, 2) := by decide +kernel
theorem dL_arePriced_18 : decode cL_arePriced 18 = .ok (.iaload, 1) := by decide +kernel
theorem dL_arePriced_19 : decode cL_arePriced 19 = .ok (.sipush 4096, 3) := by decide +kernel
theorem dL_arePriced_22 : decode cL_arePriced 22 = .ok (.if_icmp .ge 167, 3) := by decide +kernel
theorem dL_arePriced_25 : decode cL_arePriced 25 = .ok (.lconst 1, 1) := by decide +kernel
theorem dL_arePriced_26 : decode cL_arePriced 26 = .ok (.lstore 8, 2) := by decide +kernel
theorem dL_arePriced_28 : decode cL_arePriced 28 = .ok (.aload_n 0, 1) := by decide +kernel
theorem dL_arePriced_29 : decode cL_arePriced 29 = .ok (.iload 7, 2) := by decide +kernel
theorem dL_arePriced_31 : decode cL_arePriced 31 = .ok (.invokestatic 117, 3) := by decide +kernel
theorem dL_arePriced_34 : decode cL_arePriced 34 = .ok (.lstore 10, 2) := by decide +kernel
theorem dL_arePriced_36 : decode cL_arePriced 36 = .ok (.iconst 0, 1) := by decide +kernel
theorem dL_arePriced_37 : decode cL_arePriced 37 = .ok (.istore 12, 2) := by decide +kernel
theorem dL_arePriced_39 : decode cL_arePriced 39 = .ok (.iload 12, 2) := by decide +kernel
theorem dL_arePriced_41 : decode cL_arePriced 41 = .ok (.bipush 64, 2) := by decide +kernel
theorem dL_arePriced_43 : decode cL_arePriced 43 = .ok (.if_icmp .ge 35, 3) := by decide +kernel
theorem dL_arePriced_46 : decode cL_arePriced 46 = .ok (.lload 8, 2) := by decide +kernel
theorem dL_arePriced_48 : decode cL_arePriced 48 = .ok (.lload 10, 2) := by decide +kernel
theorem dL_arePriced_50 : decode cL_arePriced 50 = .ok (.iload 12, 2) := by decide +kernel
theorem dL_arePriced_52 : decode cL_arePriced 52 = .ok (.lshr, 1) := by decide +kernel
theorem dL_arePriced_53 : decode cL_arePriced 53 = .ok (.lconst 1, 1) := by decide +kernel
theorem dL_arePriced_54 : decode cL_arePriced 54 = .ok (.land, 1) := by decide +kernel
theorem dL_arePriced_55 : decode cL_arePriced 55 = .ok (.lconst 1, 1) := by decide +kernel
theorem dL_arePriced_56 : decode cL_arePriced 56 = .ok (.lcmp, 1) := by decide +kernel
theorem dL_arePriced_57 : decode cL_arePriced 57 = .ok (.ifCond .ne 11, 3) := by decide +kernel
theorem dL_arePriced_60 : decode cL_arePriced 60 = .ok (.aload_n 2, 1) := by decide +kernel
theorem dL_arePriced_61 : decode cL_arePriced 61 = .ok (.iload 12, 2) := by decide +kernel
theorem dL_arePriced_63 : decode cL_arePriced 63 = .ok (.iaload, 1) := by decide +kernel
theorem dL_arePriced_64 : decode cL_arePriced 64 = .ok (.i2l, 1) := by decide +kernel
theorem dL_arePriced_65 : decode cL_arePriced 65 = .ok (.goto 4, 3) := by decide +kernel
theorem dL_arePriced_68 : decode cL_arePriced 68 = .ok (.lconst 0, 1) := by decide +kernel
theorem dL_arePriced_69 : decode cL_arePriced 69 = .ok (.ladd, 1) := by decide +kernel
theorem dL_arePriced_70 : decode cL_arePriced 70 = .ok (.lstore 8, 2) := by decide +kernel
theorem dL_arePriced_72 : decode cL_arePriced 72 = .ok (.iinc 12 1, 3) := by decide +kernel
theorem dL_arePriced_75 : decode cL_arePriced 75 = .ok (.goto (-36), 3) := by decide +kernel
theorem dL_arePriced_78 : decode cL_arePriced 78 = .ok (.aload_n 0, 1) := by decide +kernel
theorem dL_arePriced_79 : decode cL_arePriced 79 = .ok (.iload 7, 2) := by decide +kernel
theorem dL_arePriced_81 : decode cL_arePriced 81 = .ok (.invokestatic 108, 3) := by decide +kernel
theorem dL_arePriced_84 : decode cL_arePriced 84 = .ok (.bipush 100, 2) := by decide +kernel
theorem dL_arePriced_86 : decode cL_arePriced 86 = .ok (.idiv, 1) := by decide +kernel
theorem dL_arePriced_87 : decode cL_arePriced 87 = .ok (.istore 12, 2) := by decide +kernel
theorem dL_arePriced_89 : decode cL_arePriced 89 = .ok (.lload 8, 2) := by decide +kernel
theorem dL_arePriced_91 : decode cL_arePriced 91 = .ok (.aload_n 3, 1) := by decide +kernel
theorem dL_arePriced_92 : decode cL_arePriced 92 = .ok (.iload 12, 2) := by decide +kernel
theorem dL_arePriced_94 : decode cL_arePriced 94 = .ok (.ifCond .ge 7, 3) := by decide +kernel
theorem dL_arePriced_97 : decode cL_arePriced 97 = .ok (.iconst 0, 1) := by decide +kernel
theorem dL_arePriced_98 : decode cL_arePriced 98 = .ok (.goto 17, 3) := by decide +kernel
theorem dL_arePriced_101 : decode cL_arePriced 101 = .ok (.iload 12, 2) := by decide +kernel
theorem dL_arePriced_103 : decode cL_arePriced 103 = .ok (.bipush 9, 2) := by decide +kernel
theorem dL_arePriced_105 : decode cL_arePriced 105 = .ok (.if_icmp .le 8, 3) := by decide +kernel
theorem dL_arePriced_108 : decode cL_arePriced 108 = .ok (.bipush 9, 2) := by decide +kernel
theorem dL_arePriced_110 : decode cL_arePriced 110 = .ok (.goto 5, 3) := by decide +kernel
theorem dL_arePriced_113 : decode cL_arePriced 113 = .ok (.iload 12, 2) := by decide +kernel
theorem dL_arePriced_115 : decode cL_arePriced 115 = .ok (.iaload, 1) := by decide +kernel
theorem dL_arePriced_116 : decode cL_arePriced 116 = .ok (.i2l, 1) := by decide +kernel
theorem dL_arePriced_117 : decode cL_arePriced 117 = .ok (.lmul, 1) := by decide +kernel
theorem dL_arePriced_118 : decode cL_arePriced 118 = .ok (.lstore 8, 2) := by decide +kernel
theorem dL_arePriced_120 : decode cL_arePriced 120 = .ok (.aload_n 0, 1) := by decide +kernel
theorem dL_arePriced_121 : decode cL_arePriced 121 = .ok (.iload 7, 2) := by decide +kernel
theorem dL_arePriced_123 : decode cL_arePriced 123 = .ok (.invokestatic 101, 3) := by decide +kernel
theorem dL_arePriced_126 : decode cL_arePriced 126 = .ok (.ifCond .ne 7, 3) := by decide +kernel
theorem dL_arePriced_129 : decode cL_arePriced 129 = .ok (.iconst 1, 1) := by decide +kernel
theorem dL_arePriced_130 : decode cL_arePriced 130 = .ok (.goto 4, 3) := by decide +kernel
theorem dL_arePriced_133 : decode cL_arePriced 133 = .ok (.iconst 0, 1) := by decide +kernel
theorem dL_arePriced_134 : decode cL_arePriced 134 = .ok (.istore 13, 2) := by decide +kernel
theorem dL_arePriced_136 : decode cL_arePriced 136 = .ok (.aload_n 0, 1) := by decide +kernel
theorem dL_arePriced_137 : decode cL_arePriced 137 = .ok (.iload 7, 2) := by decide +kernel
theorem dL_arePriced_139 : decode cL_arePriced 139 = .ok (.invokestatic 122, 3) := by decide +kernel
theorem dL_arePriced_142 : decode cL_arePriced 142 = .ok (.iload 13, 2) := by decide +kernel
theorem dL_arePriced_144 : decode cL_arePriced 144 = .ok (.ifCond .ne 7, 3) := by decide +kernel
theorem dL_arePriced_147 : decode cL_arePriced 147 = .ok (.iconst (-1), 1) := by decide +kernel
theorem dL_arePriced_148 : decode cL_arePriced 148 = .ok (.goto 20, 3) := by decide +kernel
theorem dL_arePriced_151 : decode cL_arePriced 151 = .ok (.lload 8, 2) := by decide +kernel
theorem dL_arePriced_153 : decode cL_arePriced 153 = .ok (.ldc2_w 144, 3) := by decide +kernel
theorem dL_arePriced_156 : decode cL_arePriced 156 = .ok (.lcmp, 1) := by decide +kernel
theorem dL_arePriced_157 : decode cL_arePriced 157 = .ok (.ifCond .le 8, 3) := by decide +kernel
theorem dL_arePriced_160 : decode cL_arePriced 160 = .ok (.bipush (-2), 2) := by decide +kernel
theorem dL_arePriced_162 : decode cL_arePriced 162 = .ok (.goto 6, 3) := by decide +kernel
theorem dL_arePriced_165 : decode cL_arePriced 165 = .ok (.lload 8, 2) := by decide +kernel
theorem dL_arePriced_167 : decode cL_arePriced 167 = .ok (.l2i, 1) := by decide +kernel
theorem dL_arePriced_168 : decode cL_arePriced 168 = .ok (.if_icmp .eq 5, 3) := by decide +kernel
theorem dL_arePriced_171 : decode cL_arePriced 171 = .ok (.iconst 0, 1) := by decide +kernel
theorem dL_arePriced_172 : decode cL_arePriced 172 = .ok (.ireturn, 1) := by decide +kernel
theorem dL_arePriced_173 : decode cL_arePriced 173 = .ok (.lload 5, 2) := by decide +kernel
theorem dL_arePriced_175 : decode cL_arePriced 175 = .ok (.iload 13, 2) := by decide +kernel
theorem dL_arePriced_177 : decode cL_arePriced 177 = .ok (.ifCond .eq 8, 3) := by decide +kernel
theorem dL_arePriced_180 : decode cL_arePriced 180 = .ok (.lload 8, 2) := by decide +kernel
theorem dL_arePriced_182 : decode cL_arePriced 182 = .ok (.goto 4, 3) := by decide +kernel
theorem dL_arePriced_185 : decode cL_arePriced 185 = .ok (.lconst 0, 1) := by decide +kernel
theorem dL_arePriced_186 : decode cL_arePriced 186 = .ok (.ladd, 1) := by decide +kernel
theorem dL_arePriced_187 : decode cL_arePriced 187 = .ok (.lstore 5, 2) := by decide +kernel
theorem dL_arePriced_189 : decode cL_arePriced 189 = .ok (.iinc 7 1, 3) := by decide +kernel
theorem dL_arePriced_192 : decode cL_arePriced 192 = .ok (.goto (-186), 3) := by decide +kernel
theorem dL_arePriced_195 : decode cL_arePriced 195 = .ok (.aload_n 0, 1) := by decide +kernel
theorem dL_arePriced_196 : decode cL_arePriced 196 = .ok (.invokevirtual 146, 3) := by decide +kernel
theorem dL_arePriced_199 : decode cL_arePriced 199 = .ok (.lload 5, 2) := by decide +kernel
theorem dL_arePriced_201 : decode cL_arePriced 201 = .ok (.ldc2_w 144, 3) := by decide +kernel
theorem dL_arePriced_204 : decode cL_arePriced 204 = .ok (.lcmp, 1) := by decide +kernel
theorem dL_arePriced_205 : decode cL_arePriced 205 = .ok (.ifCond .le 8, 3) := by decide +kernel
theorem dL_arePriced_208 : decode cL_arePriced 208 = .ok (.bipush (-2), 2) := by decide +kernel
theorem dL_arePriced_210 : decode cL_arePriced 210 = .ok (.goto 6, 3) := by decide +kernel
theorem dL_arePriced_213 : decode cL_arePriced 213 = .ok (.lload 5, 2) := by decide +kernel
theorem dL_arePriced_215 : decode cL_arePriced 215 = .ok (.l2i, 1) := by decide +kernel
theorem dL_arePriced_216 : decode cL_arePriced 216 = .ok (.if_icmp .ne 7, 3) := by decide +kernel
theorem dL_arePriced_219 : decode cL_arePriced 219 = .ok (.iconst 1, 1) := by decide +kernel
theorem dL_arePriced_220 : decode cL_arePriced 220 = .ok (.goto 4, 3) := by decide +kernel
theorem dL_arePriced_223 : decode cL_arePriced 223 = .ok (.iconst 0, 1) := by decide +kernel
theorem dL_arePriced_224 : decode cL_arePriced 224 = .ok (.ireturn, 1) := by decide +kernel
set_option maxRecDepth 20000 in
theorem ggL_areShells_L_low : GoodIn wsL_areShells wsL_low := goodIn_r _ [5, 6] (by decide +kernel) (by decide +kernel)
set_option maxRecDepth 20000 in
theorem gL_areShells_L_low : GoodIn wsL_areShells (va_wsS RL 149 yL_low wsL_low) := goodIn_app (goodIn_of _ (by decide +kernel)) ggL_areShells_L_low
set_option maxRecDepth 20000 in
theorem ggL_areShells_L_inLayer : GoodIn wsL_areShells wsL_inLayer := goodIn_ca (goodIn_r _ [9, 10, 1, 11, 12, 13, 14, 15, 16, 17, 18, 19, 20, 21, 22, 31, 32, 33, 34, 35, 36, 37, 38, 39, 40, 41, 42, 43, 44, 45, 46, 47, 48, 49, 50, 51, 52] (by decide +kernel) (by decide +kernel)) (goodIn_sub (fun _ h => List.mem_cons_of_mem _ (List.mem_append_right _ h)) (by decide +kernel))
set_option maxRecDepth 20000 in
theorem gL_areShells_L_inLayer : GoodIn wsL_areShells (va_wsS RL 152 yL_inLayer wsL_inLayer) := goodIn_app (goodIn_of _ (by decide +kernel)) ggL_areShells_L_inLayer
set_option maxRecDepth 20000 in
theorem ggL_areShells_L_flight : GoodIn wsL_areShells wsL_flight := goodIn_ca (goodIn_r _ [25, 10, 1, 26, 27, 28, 14, 29, 16, 17, 18, 30, 20, 21, 22, 31, 32, 33, 34, 35, 36, 37, 38, 39, 40, 41, 42, 43, 44, 45, 46, 47, 48, 49, 50, 51, 52] (by decide +kernel) (by decide +kernel)) (goodIn_sub (fun _ h => List.mem_cons_of_mem _ (List.mem_append_right _ h)) (by decide +kernel))
set_option maxRecDepth 20000 in
theorem gL_areShells_L_flight : GoodIn wsL_areShells (va_wsS RL 154 yL_flight wsL_flight) := goodIn_app (goodIn_of _ (by decide +kernel)) ggL_areShells_L_flight
theorem dL_areShells_0 : decode cL_areShells 0 = .ok (.iload_n 2, 1) := by decide +kernel
theorem dL_areShells_1 : decode cL_areShells 1 = .ok (.iconst 4, 1) := by decide +kernel
theorem dL_areShells_2 : decode cL_areShells 2 = .ok (.invokestatic 149, 3) := by decide +kernel
theorem dL_areShells_5 : decode cL_areShells 5 = .ok (.istore_n 3, 1) := by decide +kernel
theorem dL_areShells_6 : decode cL_areShells 6 = .ok (.iconst 0, 1) := by decide +kernel
theorem dL_areShells_7 : decode cL_areShells 7 = .ok (.istore 4, 2) := by decide +kernel
theorem dL_areShells_9 : decode cL_areShells 9 = .ok (.iconst 0, 1) := by decide +kernel
theorem dL_areShells_10 : decode cL_areShells 10 = .ok (.istore 5, 2) := by decide +kernel
theorem dL_areShells_12 : decode cL_areShells 12 = .ok (.iload 5, 2) := by decide +kernel
theorem dL_areShells_14 : decode cL_areShells 14 = .ok (.iconst 4, 1) := by decide +kernel
theorem dL_areShells_15 : decode cL_areShells 15 = .ok (.if_icmp .ge 21, 3) := by decide +kernel
theorem dL_areShells_18 : decode cL_areShells 18 = .ok (.iload 4, 2) := by decide +kernel
theorem dL_areShells_20 : decode cL_areShells 20 = .ok (.aload_n 0, 1) := by decide +kernel
theorem dL_areShells_21 : decode cL_areShells 21 = .ok (.iload_n 3, 1) := by decide +kernel
theorem dL_areShells_22 : decode cL_areShells 22 = .ok (.iload 5, 2) := by decide +kernel
theorem dL_areShells_24 : decode cL_areShells 24 = .ok (.invokestatic 152, 3) := by decide +kernel
theorem dL_areShells_27 : decode cL_areShells 27 = .ok (.iadd, 1) := by decide +kernel
theorem dL_areShells_28 : decode cL_areShells 28 = .ok (.istore 4, 2) := by decide +kernel
theorem dL_areShells_30 : decode cL_areShells 30 = .ok (.iinc 5 1, 3) := by decide +kernel
theorem dL_areShells_33 : decode cL_areShells 33 = .ok (.goto (-21), 3) := by decide +kernel
theorem dL_areShells_36 : decode cL_areShells 36 = .ok (.iload 4, 2) := by decide +kernel
theorem dL_areShells_38 : decode cL_areShells 38 = .ok (.aload_n 0, 1) := by decide +kernel
theorem dL_areShells_39 : decode cL_areShells 39 = .ok (.iload_n 3, 1) := by decide +kernel
theorem dL_areShells_40 : decode cL_areShells 40 = .ok (.invokestatic 154, 3) := by decide +kernel
theorem dL_areShells_43 : decode cL_areShells 43 = .ok (.if_icmp .ne 60, 3) := by decide +kernel
theorem dL_areShells_46 : decode cL_areShells 46 = .ok (.iload 4, 2) := by decide +kernel
theorem dL_areShells_48 : decode cL_areShells 48 = .ok (.aload_n 1, 1) := by decide +kernel
theorem dL_areShells_49 : decode cL_areShells 49 = .ok (.iload_n 3, 1) := by decide +kernel
theorem dL_areShells_50 : decode cL_areShells 50 = .ok (.iaload, 1) := by decide +kernel
theorem dL_areShells_51 : decode cL_areShells 51 = .ok (.bipush 32, 2) := by decide +kernel
theorem dL_areShells_53 : decode cL_areShells 53 = .ok (.irem, 1) := by decide +kernel
theorem dL_areShells_54 : decode cL_areShells 54 = .ok (.if_icmp .le 49, 3) := by decide +kernel
theorem dL_areShells_57 : decode cL_areShells 57 = .ok (.aload_n 0, 1) := by decide +kernel
theorem dL_areShells_58 : decode cL_areShells 58 = .ok (.iload_n 3, 1) := by decide +kernel
theorem dL_areShells_59 : decode cL_areShells 59 = .ok (.iconst 0, 1) := by decide +kernel
theorem dL_areShells_60 : decode cL_areShells 60 = .ok (.invokestatic 152, 3) := by decide +kernel
theorem dL_areShells_63 : decode cL_areShells 63 = .ok (.iconst 1, 1) := by decide +kernel
theorem dL_areShells_64 : decode cL_areShells 64 = .ok (.if_icmp .le 39, 3) := by decide +kernel
theorem dL_areShells_67 : decode cL_areShells 67 = .ok (.aload_n 0, 1) := by decide +kernel
theorem dL_areShells_68 : decode cL_areShells 68 = .ok (.iconst 4, 1) := by decide +kernel
theorem dL_areShells_69 : decode cL_areShells 69 = .ok (.invokestatic 154, 3) := by decide +kernel
theorem dL_areShells_72 : decode cL_areShells 72 = .ok (.ldc 18, 2) := by decide +kernel
theorem dL_areShells_74 : decode cL_areShells 74 = .ok (.if_icmp .ne 29, 3) := by decide +kernel
theorem dL_areShells_77 : decode cL_areShells 77 = .ok (.aload_n 0, 1) := by decide +kernel
theorem dL_areShells_78 : decode cL_areShells 78 = .ok (.iconst 4, 1) := by decide +kernel
theorem dL_areShells_79 : decode cL_areShells 79 = .ok (.iconst 0, 1) := by decide +kernel
theorem dL_areShells_80 : decode cL_areShells 80 = .ok (.invokestatic 152, 3) := by decide +kernel
theorem dL_areShells_83 : decode cL_areShells 83 = .ok (.ldc 18, 2) := by decide +kernel
theorem dL_areShells_85 : decode cL_areShells 85 = .ok (.if_icmp .ne 18, 3) := by decide +kernel
theorem dL_areShells_88 : decode cL_areShells 88 = .ok (.aload_n 0, 1) := by decide +kernel
theorem dL_areShells_89 : decode cL_areShells 89 = .ok (.iconst 0, 1) := by decide +kernel
theorem dL_areShells_90 : decode cL_areShells 90 = .ok (.iconst 4, 1) := by decide +kernel
theorem dL_areShells_91 : decode cL_areShells 91 = .ok (.invokestatic 152, 3) := by decide +kernel
theorem dL_areShells_94 : decode cL_areShells 94 = .ok (.ldc 18, 2) := by decide +kernel
theorem dL_areShells_96 : decode cL_areShells 96 = .ok (.if_icmp .ne 7, 3) := by decide +kernel
theorem dL_areShells_99 : decode cL_areShells 99 = .ok (.iconst 1, 1) := by decide +kernel
theorem dL_areShells_100 : decode cL_areShells 100 = .ok (.goto 4, 3) := by decide +kernel
theorem dL_areShells_103 : decode cL_areShells 103 = .ok (.iconst 0, 1) := by decide +kernel
theorem dL_areShells_104 : decode cL_areShells 104 = .ok (.ireturn, 1) := by decide +kernel
set_option maxRecDepth 20000 in
theorem ggL_sets_L_low : GoodIn wsL_sets wsL_low := goodIn_r _ [10, 11] (by decide +kernel) (by decide +kernel)
set_option maxRecDepth 20000 in
theorem gL_sets_L_low : GoodIn wsL_sets (va_wsS RL 149 yL_low wsL_low) := goodIn_app (goodIn_of _ (by decide +kernel)) ggL_sets_L_low
set_option maxRecDepth 20000 in
theorem ggL_sets_L_setRack : GoodIn wsL_sets wsL_setRack := goodIn_ca (goodIn_r _ [14, 15, 1, 16, 17, 18, 19, 20, 21, 22, 23, 24, 25, 26, 27, 28, 29, 30, 31, 32, 33, 34, 35, 289, 290, 291, 292, 293, 294, 295, 296, 297, 298, 299, 300, 301, 302, 303, 304, 305] (by decide +kernel) (by decide +kernel)) (goodIn_sub (fun _ h => List.mem_cons_of_mem _ (List.mem_append_left _ (List.mem_append_right _ h))) (by decide +kernel))
set_option maxRecDepth 20000 in
theorem gL_sets_L_setRack : GoodIn wsL_sets (va_wsS RL 156 yL_setRack wsL_setRack) := goodIn_app (goodIn_of _ (by decide +kernel)) ggL_sets_L_setRack
set_option maxRecDepth 20000 in
theorem ggL_sets_L_setShell : GoodIn wsL_sets wsL_setShell := goodIn_ca (goodIn_r _ [38, 15, 1, 39, 40, 41, 19, 42, 21, 22, 43, 26, 44, 27, 28, 29, 45, 46, 47, 48, 49, 50, 51, 52, 53, 54, 55, 56, 57, 58, 59, 60, 61, 62, 63, 64, 65, 66, 67, 68, 69, 70, 71, 72, 73, 74, 75, 76, 77, 78, 79, 80, 81, 82, 83, 84, 85, 86, 87, 88, 289, 290, 291, 292, 293, 294, 295, 296, 297, 298, 299, 300, 301, 302, 303, 306, 307, 308, 309, 310, 311, 312, 313, 314, 315, 316, 317] (by decide +kernel) (by decide +kernel)) (goodIn_sub (fun _ h => List.mem_cons_of_mem _ (List.mem_append_left _ (List.mem_append_right _ h))) (by decide +kernel))
set_option maxRecDepth 20000 in
theorem gL_sets_L_setShell : GoodIn wsL_sets (va_wsS RL 159 yL_setShell wsL_setShell) := goodIn_app (goodIn_of _ (by decide +kernel)) ggL_sets_L_setShell
set_option maxRecDepth 20000 in
theorem ggL_sets_L_becomes : GoodIn wsL_sets wsL_becomes := goodIn_ca (goodIn_r _ [91, 92, 93, 94, 95, 96, 19, 97, 98, 99, 100, 101, 102, 103, 104, 105, 106, 107, 108, 109, 27, 28, 29, 110, 111, 112, 113, 26, 114, 115, 116, 117, 118, 119, 120, 121, 122, 123, 124, 125, 126, 127, 128, 129, 130, 131, 132, 133, 134, 135, 136, 137, 138, 139, 140, 141, 142, 143, 144, 48, 145, 55, 146, 147, 148, 149, 150, 151, 152, 153, 154, 155, 156, 157, 158, 159, 160, 161, 162, 163, 83, 80, 84, 164, 79, 81, 33, 34, 35, 165, 166, 167, 168, 169, 170, 171, 172, 173, 174, 175, 176, 61, 62, 63, 177, 178, 179, 180, 181, 182, 183, 184, 185, 44, 186, 187, 188, 189, 190, 191, 192, 193, 194, 195, 196, 197, 198, 199, 200, 201, 202, 203, 204, 205, 206, 207, 208, 209, 210, 211, 212, 213, 214, 215, 216, 318, 319, 320, 321, 322, 323, 324, 325, 326, 289, 290, 291, 292, 293, 294, 295, 296, 297, 298, 299, 300, 301, 302, 303, 306, 307, 308, 309, 310, 311, 312, 327, 328, 329, 330, 304, 305, 331, 332, 333, 334, 335, 336, 337, 338] (by decide +kernel) (by decide +kernel)) (goodIn_sub (fun _ h => List.mem_cons_of_mem _ (List.mem_append_right _ h)) (by decide +kernel))
set_option maxRecDepth 20000 in
theorem gL_sets_L_becomes : GoodIn wsL_sets (va_wsS RL 101 yL_becomes wsL_becomes) := goodIn_app (goodIn_of _ (by decide +kernel)) ggL_sets_L_becomes
set_option maxRecDepth 20000 in
theorem ggL_sets_L_setWind : GoodIn wsL_sets wsL_setWind := goodIn_ca (goodIn_r _ [219, 15, 1, 220, 221, 222, 19, 223, 21, 22, 134, 135, 154, 26, 224, 27, 28, 29, 225, 226, 227, 228, 109, 98, 198, 110, 111, 112, 113, 114, 115, 116, 117, 118, 119, 120, 121, 122, 123, 124, 125, 126, 127, 128, 129, 130, 131, 132, 133, 136, 137, 138, 139, 140, 141, 142, 143, 144, 48, 145, 55, 146, 147, 148, 149, 150, 151, 152, 153, 155, 156, 157, 158, 159, 160, 161, 162, 163, 83, 80, 84, 164, 79, 81, 33, 34, 35, 165, 166, 167, 168, 169, 170, 171, 172, 173, 174, 175, 176, 61, 62, 63, 177, 178, 179, 180, 181, 182, 183, 184, 185, 44, 186, 187, 188, 189, 190, 191, 192, 193, 194, 195, 196, 197, 199, 200, 201, 202, 203, 204, 205, 206, 207, 208, 209, 210, 211, 212, 213, 214, 215, 216, 229, 230, 231, 232, 233, 234, 235, 289, 290, 291, 292, 293, 294, 295, 296, 297, 298, 299, 300, 301, 302, 303, 329, 330, 318, 319, 320, 321, 322, 323, 324, 325, 326, 306, 307, 308, 309, 310, 311, 312, 327, 328, 304, 305, 331, 332, 333, 334, 335, 336, 337, 338] (by decide +kernel) (by decide +kernel)) (goodIn_sub (fun _ h => List.mem_cons_of_mem _ (List.mem_append_left _ (List.mem_append_right _ h))) (by decide +kernel))
set_option maxRecDepth 20000 in
theorem gL_sets_L_setWind : GoodIn wsL_sets (va_wsS RL 162 yL_setWind wsL_setWind) := goodIn_app (goodIn_of _ (by decide +kernel)) ggL_sets_L_setWind
set_option maxRecDepth 20000 in
theorem ggL_sets_L_setPeople : GoodIn wsL_sets wsL_setPeople := goodIn_ca (goodIn_r _ [238, 15, 1, 239, 240, 241, 19, 242, 21, 22, 119, 243, 26, 30, 31, 32, 27, 28, 29, 33, 34, 35, 289, 290, 291, 292, 293, 294, 295, 296, 297, 298, 299, 300, 301, 302, 303, 327, 328] (by decide +kernel) (by decide +kernel)) (goodIn_sub (fun _ h => List.mem_cons_of_mem _ (List.mem_append_left _ (List.mem_append_right _ h))) (by decide +kernel))
set_option maxRecDepth 20000 in
theorem gL_sets_L_setPeople : GoodIn wsL_sets (va_wsS RL 164 yL_setPeople wsL_setPeople) := goodIn_app (goodIn_of _ (by decide +kernel)) ggL_sets_L_setPeople
set_option maxRecDepth 20000 in
theorem ggL_sets_X9_peopled : GoodIn wsL_sets wsX9_peopled := goodIn_r _ [247, 119, 123, 124, 125, 126, 127, 128, 229, 230, 231, 232, 233, 234, 235, 289, 290, 291, 292, 293, 294, 295, 296, 297, 298, 299, 300, 301, 302, 303, 327, 328] (by decide +kernel) (by decide +kernel)
set_option maxRecDepth 20000 in
theorem gL_sets_X9_peopled : GoodIn wsL_sets (wsV RL 166 RX9 yX9_peopled wsX9_peopled) := goodIn_app (goodIn_of _ (by decide +kernel)) ggL_sets_X9_peopled
set_option maxRecDepth 20000 in
theorem ggL_sets_L_setValue : GoodIn wsL_sets wsL_setValue := goodIn_ca (goodIn_r _ [250, 15, 1, 251, 252, 253, 19, 254, 21, 22, 255, 119, 256, 30, 31, 32, 27, 28, 29, 33, 34, 35, 289, 290, 291, 292, 293, 294, 295, 296, 297, 298, 299, 300, 301, 302, 303, 327, 328] (by decide +kernel) (by decide +kernel)) (goodIn_sub (fun _ h => List.mem_cons_of_mem _ (List.mem_append_left _ (List.mem_append_right _ h))) (by decide +kernel))
set_option maxRecDepth 20000 in
theorem gL_sets_L_setValue : GoodIn wsL_sets (va_wsS RL 170 yL_setValue wsL_setValue) := goodIn_app (goodIn_of _ (by decide +kernel)) ggL_sets_L_setValue
set_option maxRecDepth 20000 in
theorem ggL_sets_L_setRate : GoodIn wsL_sets wsL_setRate := goodIn_ca (goodIn_r _ [259, 15, 1, 260, 261, 262, 19, 263, 21, 22, 264, 265, 27, 28, 29, 289, 290, 291, 292, 293, 294, 295, 296, 297, 298, 299, 300, 301, 302, 303] (by decide +kernel) (by decide +kernel)) (goodIn_sub (fun _ h => List.mem_cons_of_mem _ (List.mem_append_left _ (List.mem_append_right _ h))) (by decide +kernel))
set_option maxRecDepth 20000 in
theorem gL_sets_L_setRate : GoodIn wsL_sets (va_wsS RL 174 yL_setRate wsL_setRate) := goodIn_app (goodIn_of _ (by decide +kernel)) ggL_sets_L_setRate
set_option maxRecDepth 20000 in
theorem ggL_sets_L_kill : GoodIn wsL_sets wsL_kill := goodIn_ca (goodIn_r _ [268, 15, 1, 269, 270, 271, 19, 272, 21, 22, 197, 273, 26, 27, 28, 29, 289, 290, 291, 292, 293, 294, 295, 296, 297, 298, 299, 300, 301, 302, 303, 335, 336, 337, 338] (by decide +kernel) (by decide +kernel)) (goodIn_sub (fun _ h => List.mem_cons_of_mem _ (List.mem_append_left _ (List.mem_append_right _ h))) (by decide +kernel))
set_option maxRecDepth 20000 in
theorem gL_sets_L_kill : GoodIn wsL_sets (va_wsS RL 177 yL_kill wsL_kill) := goodIn_app (goodIn_of _ (by decide +kernel)) ggL_sets_L_kill
set_option maxRecDepth 20000 in
theorem ggL_sets_L_setGap : GoodIn wsL_sets wsL_setGap := goodIn_ca (goodIn_r _ [276, 15, 1, 277, 278, 279, 19, 280, 21, 22, 197, 281, 26, 27, 28, 29, 289, 290, 291, 292, 293, 294, 295, 296, 297, 298, 299, 300, 301, 302, 303, 335, 336, 337, 338] (by decide +kernel) (by decide +kernel)) (goodIn_sub (fun _ h => List.mem_cons_of_mem _ (List.mem_append_left _ (List.mem_append_right _ h))) (by decide +kernel))
set_option maxRecDepth 20000 in
theorem gL_sets_L_setGap : GoodIn wsL_sets (va_wsS RL 179 yL_setGap wsL_setGap) := goodIn_app (goodIn_of _ (by decide +kernel)) ggL_sets_L_setGap
set_option maxRecDepth 20000 in
theorem ggL_sets_L_setTempo : GoodIn wsL_sets wsL_setTempo := goodIn_ca (goodIn_r _ [284, 15, 1, 285, 286, 287, 19, 288, 21, 22, 184, 26, 27, 28, 29, 289, 290, 291, 292, 293, 294, 295, 296, 297, 298, 299, 300, 301, 302, 303] (by decide +kernel) (by decide +kernel)) (goodIn_sub (fun _ h => List.mem_cons_of_mem _ (List.mem_append_left _ (List.mem_append_right _ h))) (by decide +kernel))
set_option maxRecDepth 20000 in
theorem gL_sets_L_setTempo : GoodIn wsL_sets (va_wsS RL 181 yL_setTempo wsL_setTempo) := goodIn_app (goodIn_of _ (by decide +kernel)) ggL_sets_L_setTempo
theorem dL_sets_0 : decode cL_sets 0 = .ok (.iload 8, 2) := by decide +kernel
theorem dL_sets_2 : decode cL_sets 2 = .ok (.bipush 12, 2) := by decide +kernel
theorem dL_sets_4 : decode cL_sets 4 = .ok (.invokestatic 149, 3) := by decide +kernel
theorem dL_sets_7 : decode cL_sets 7 = .ok (.istore 10, 2) := by decide +kernel
theorem dL_sets_9 : decode cL_sets 9 = .ok (.iload 9, 2) := by decide +kernel
theorem dL_sets_11 : decode cL_sets 11 = .ok (.bipush 8, 2) := by decide +kernel
theorem dL_sets_13 : decode cL_sets 13 = .ok (.invokestatic 149, 3) := by decide +kernel
theorem dL_sets_16 : decode cL_sets 16 = .ok (.istore 11, 2) := by decide +kernel
theorem dL_sets_18 : decode cL_sets 18 = .ok (.iload 9, 2) := by decide +kernel
theorem dL_sets_20 : decode cL_sets 20 = .ok (.iconst 3, 1) := by decide +kernel
theorem dL_sets_21 : decode cL_sets 21 = .ok (.ishr, 1) := by decide +kernel
theorem dL_sets_22 : decode cL_sets 22 = .ok (.bipush 8, 2) := by decide +kernel
theorem dL_sets_24 : decode cL_sets 24 = .ok (.invokestatic 149, 3) := by decide +kernel
theorem dL_sets_27 : decode cL_sets 27 = .ok (.istore 12, 2) := by decide +kernel
theorem dL_sets_29 : decode cL_sets 29 = .ok (.iload 10, 2) := by decide +kernel
theorem dL_sets_31 : decode cL_sets 31 = .ok (.ifCond .ne 106, 3) := by decide +kernel
theorem dL_sets_34 : decode cL_sets 34 = .ok (.aload_n 0, 1) := by decide +kernel
theorem dL_sets_35 : decode cL_sets 35 = .ok (.iload 8, 2) := by decide +kernel
theorem dL_sets_37 : decode cL_sets 37 = .ok (.iconst 4, 1) := by decide +kernel
theorem dL_sets_38 : decode cL_sets 38 = .ok (.ishr, 1) := by decide +kernel
theorem dL_sets_39 : decode cL_sets 39 = .ok (.bipush 6, 2) := by decide +kernel
theorem dL_sets_41 : decode cL_sets 41 = .ok (.invokestatic 149, 3) := by decide +kernel
theorem dL_sets_44 : decode cL_sets 44 = .ok (.iload 11, 2) := by decide +kernel
theorem dL_sets_46 : decode cL_sets 46 = .ok (.iload 12, 2) := by decide +kernel
theorem dL_sets_48 : decode cL_sets 48 = .ok (.invokestatic 156, 3) := by decide +kernel
theorem dL_sets_51 : decode cL_sets 51 = .ok (.istore 13, 2) := by decide +kernel
theorem dL_sets_53 : decode cL_sets 53 = .ok (.iload 13, 2) := by decide +kernel
theorem dL_sets_55 : decode cL_sets 55 = .ok (.ifCond .lt 80, 3) := by decide +kernel
theorem dL_sets_58 : decode cL_sets 58 = .ok (.iload 13, 2) := by decide +kernel
theorem dL_sets_60 : decode cL_sets 60 = .ok (.bipush 64, 2) := by decide +kernel
theorem dL_sets_62 : decode cL_sets 62 = .ok (.if_icmp .ge 73, 3) := by decide +kernel
theorem dL_sets_65 : decode cL_sets 65 = .ok (.aload_n 0, 1) := by decide +kernel
theorem dL_sets_66 : decode cL_sets 66 = .ok (.iload 8, 2) := by decide +kernel
theorem dL_sets_68 : decode cL_sets 68 = .ok (.iconst 4, 1) := by decide +kernel
theorem dL_sets_69 : decode cL_sets 69 = .ok (.ishr, 1) := by decide +kernel
theorem dL_sets_70 : decode cL_sets 70 = .ok (.bipush 6, 2) := by decide +kernel
theorem dL_sets_72 : decode cL_sets 72 = .ok (.invokestatic 149, 3) := by decide +kernel
theorem dL_sets_75 : decode cL_sets 75 = .ok (.iload 11, 2) := by decide +kernel
theorem dL_sets_77 : decode cL_sets 77 = .ok (.iload 12, 2) := by decide +kernel
theorem dL_sets_79 : decode cL_sets 79 = .ok (.invokestatic 156, 3) := by decide +kernel
theorem dL_sets_82 : decode cL_sets 82 = .ok (.bipush 8, 2) := by decide +kernel
theorem dL_sets_84 : decode cL_sets 84 = .ok (.iload 12, 2) := by decide +kernel
theorem dL_sets_86 : decode cL_sets 86 = .ok (.imul, 1) := by decide +kernel
theorem dL_sets_87 : decode cL_sets 87 = .ok (.iload 11, 2) := by decide +kernel
theorem dL_sets_89 : decode cL_sets 89 = .ok (.iadd, 1) := by decide +kernel
theorem dL_sets_90 : decode cL_sets 90 = .ok (.if_icmp .ne 45, 3) := by decide +kernel
theorem dL_sets_93 : decode cL_sets 93 = .ok (.aload_n 0, 1) := by decide +kernel
theorem dL_sets_94 : decode cL_sets 94 = .ok (.bipush 6, 2) := by decide +kernel
theorem dL_sets_96 : decode cL_sets 96 = .ok (.iconst 0, 1) := by decide +kernel
theorem dL_sets_97 : decode cL_sets 97 = .ok (.iconst 0, 1) := by decide +kernel
theorem dL_sets_98 : decode cL_sets 98 = .ok (.invokestatic 156, 3) := by decide +kernel
theorem dL_sets_101 : decode cL_sets 101 = .ok (.ldc 18, 2) := by decide +kernel
theorem dL_sets_103 : decode cL_sets 103 = .ok (.if_icmp .ne 32, 3) := by decide +kernel
theorem dL_sets_106 : decode cL_sets 106 = .ok (.aload_n 0, 1) := by decide +kernel
theorem dL_sets_107 : decode cL_sets 107 = .ok (.iconst 0, 1) := by decide +kernel
theorem dL_sets_108 : decode cL_sets 108 = .ok (.bipush 8, 2) := by decide +kernel
theorem dL_sets_110 : decode cL_sets 110 = .ok (.iconst 0, 1) := by decide +kernel
theorem dL_sets_111 : decode cL_sets 111 = .ok (.invokestatic 156, 3) := by decide +kernel
theorem dL_sets_114 : decode cL_sets 114 = .ok (.ldc 18, 2) := by decide +kernel
theorem dL_sets_116 : decode cL_sets 116 = .ok (.if_icmp .ne 19, 3) := by decide +kernel
theorem dL_sets_119 : decode cL_sets 119 = .ok (.aload_n 0, 1) := by decide +kernel
theorem dL_sets_120 : decode cL_sets 120 = .ok (.iconst 0, 1) := by decide +kernel
theorem dL_sets_121 : decode cL_sets 121 = .ok (.iconst 0, 1) := by decide +kernel
theorem dL_sets_122 : decode cL_sets 122 = .ok (.iconst (-1), 1) := by decide +kernel
theorem dL_sets_123 : decode cL_sets 123 = .ok (.invokestatic 156, 3) := by decide +kernel
theorem dL_sets_126 : decode cL_sets 126 = .ok (.ldc 18, 2) := by decide +kernel
theorem dL_sets_128 : decode cL_sets 128 = .ok (.if_icmp .ne 7, 3) := by decide +kernel
theorem dL_sets_131 : decode cL_sets 131 = .ok (.iconst 1, 1) := by decide +kernel
theorem dL_sets_132 : decode cL_sets 132 = .ok (.goto 4, 3) := by decide +kernel
theorem dL_sets_135 : decode cL_sets 135 = .ok (.iconst 0, 1) := by decide +kernel
theorem dL_sets_136 : decode cL_sets 136 = .ok (.ireturn, 1) := by decide +kernel
theorem dL_sets_137 : decode cL_sets 137 = .ok (.iload 10, 2) := by decide +kernel
theorem dL_sets_139 : decode cL_sets 139 = .ok (.iconst 1, 1) := by decide +kernel
theorem dL_sets_140 : decode cL_sets 140 = .ok (.if_icmp .ne 199, 3) := by decide +kernel
theorem dL_sets_143 : decode cL_sets 143 = .ok (.iload 8, 2) := by decide +kernel
theorem dL_sets_145 : decode cL_sets 145 = .ok (.iconst 4, 1) := by decide +kernel
theorem dL_sets_146 : decode cL_sets 146 = .ok (.ishr, 1) := by decide +kernel
theorem dL_sets_147 : decode cL_sets 147 = .ok (.iconst 4, 1) := by decide +kernel
theorem dL_sets_148 : decode cL_sets 148 = .ok (.invokestatic 149, 3) := by decide +kernel
theorem dL_sets_151 : decode cL_sets 151 = .ok (.istore 13, 2) := by decide +kernel
theorem dL_sets_153 : decode cL_sets 153 = .ok (.iload 9, 2) := by decide +kernel
theorem dL_sets_155 : decode cL_sets 155 = .ok (.iconst 3, 1) := by decide +kernel
theorem dL_sets_156 : decode cL_sets 156 = .ok (.invokestatic 149, 3) := by decide +kernel
theorem dL_sets_159 : decode cL_sets 159 = .ok (.ifCond .ne 18, 3) := by decide +kernel
theorem dL_sets_162 : decode cL_sets 162 = .ok (.iconst 1, 1) := by decide +kernel
theorem dL_sets_163 : decode cL_sets 163 = .ok (.iload 9, 2) := by decide +kernel
theorem dL_sets_165 : decode cL_sets 165 = .ok (.iconst 2, 1) := by decide +kernel
theorem dL_sets_166 : decode cL_sets 166 = .ok (.ishr, 1) := by decide +kernel
theorem dL_sets_167 : decode cL_sets 167 = .ok (.sipush 200, 3) := by decide +kernel
theorem dL_sets_170 : decode cL_sets 170 = .ok (.invokestatic 149, 3) := by decide +kernel
theorem dL_sets_173 : decode cL_sets 173 = .ok (.iadd, 1) := by decide +kernel
theorem dL_sets_174 : decode cL_sets 174 = .ok (.goto 14, 3) := by decide +kernel
theorem dL_sets_177 : decode cL_sets 177 = .ok (.iconst 1, 1) := by decide +kernel
theorem dL_sets_178 : decode cL_sets 178 = .ok (.iload 9, 2) := by decide +kernel
theorem dL_sets_180 : decode cL_sets 180 = .ok (.iconst 2, 1) := by decide +kernel
theorem dL_sets_181 : decode cL_sets 181 = .ok (.ishr, 1) := by decide +kernel
theorem dL_sets_182 : decode cL_sets 182 = .ok (.bipush 60, 2) := by decide +kernel
theorem dL_sets_184 : decode cL_sets 184 = .ok (.invokestatic 149, 3) := by decide +kernel
theorem dL_sets_187 : decode cL_sets 187 = .ok (.iadd, 1) := by decide +kernel
theorem dL_sets_188 : decode cL_sets 188 = .ok (.istore 14, 2) := by decide +kernel
theorem dL_sets_190 : decode cL_sets 190 = .ok (.iload 9, 2) := by decide +kernel
theorem dL_sets_192 : decode cL_sets 192 = .ok (.bipush 10, 2) := by decide +kernel
theorem dL_sets_194 : decode cL_sets 194 = .ok (.ishr, 1) := by decide +kernel
theorem dL_sets_195 : decode cL_sets 195 = .ok (.iconst 4, 1) := by decide +kernel
theorem dL_sets_196 : decode cL_sets 196 = .ok (.invokestatic 149, 3) := by decide +kernel
theorem dL_sets_199 : decode cL_sets 199 = .ok (.istore 15, 2) := by decide +kernel
theorem dL_sets_201 : decode cL_sets 201 = .ok (.aload_n 2, 1) := by decide +kernel
theorem dL_sets_202 : decode cL_sets 202 = .ok (.iload 13, 2) := by decide +kernel
theorem dL_sets_204 : decode cL_sets 204 = .ok (.iload 14, 2) := by decide +kernel
theorem dL_sets_206 : decode cL_sets 206 = .ok (.bipush 9, 2) := by decide +kernel
theorem dL_sets_208 : decode cL_sets 208 = .ok (.iadd, 1) := by decide +kernel
theorem dL_sets_209 : decode cL_sets 209 = .ok (.bipush 10, 2) := by decide +kernel
theorem dL_sets_211 : decode cL_sets 211 = .ok (.idiv, 1) := by decide +kernel
theorem dL_sets_212 : decode cL_sets 212 = .ok (.bipush 32, 2) := by decide +kernel
theorem dL_sets_214 : decode cL_sets 214 = .ok (.iload 15, 2) := by decide +kernel
theorem dL_sets_216 : decode cL_sets 216 = .ok (.imul, 1) := by decide +kernel
theorem dL_sets_217 : decode cL_sets 217 = .ok (.iadd, 1) := by decide +kernel
theorem dL_sets_218 : decode cL_sets 218 = .ok (.iastore, 1) := by decide +kernel
theorem dL_sets_219 : decode cL_sets 219 = .ok (.aload_n 0, 1) := by decide +kernel
theorem dL_sets_220 : decode cL_sets 220 = .ok (.iload 13, 2) := by decide +kernel
theorem dL_sets_222 : decode cL_sets 222 = .ok (.iload 14, 2) := by decide +kernel
theorem dL_sets_224 : decode cL_sets 224 = .ok (.iconst 1, 1) := by decide +kernel
theorem dL_sets_225 : decode cL_sets 225 = .ok (.iload 9, 2) := by decide +kernel
theorem dL_sets_227 : decode cL_sets 227 = .ok (.bipush 12, 2) := by decide +kernel
theorem dL_sets_229 : decode cL_sets 229 = .ok (.ishr, 1) := by decide +kernel
theorem dL_sets_230 : decode cL_sets 230 = .ok (.bipush 100, 2) := by decide +kernel
theorem dL_sets_232 : decode cL_sets 232 = .ok (.invokestatic 149, 3) := by decide +kernel
theorem dL_sets_235 : decode cL_sets 235 = .ok (.iadd, 1) := by decide +kernel
theorem dL_sets_236 : decode cL_sets 236 = .ok (.iload 15, 2) := by decide +kernel
theorem dL_sets_238 : decode cL_sets 238 = .ok (.invokestatic 159, 3) := by decide +kernel
theorem dL_sets_241 : decode cL_sets 241 = .ok (.iload 14, 2) := by decide +kernel
theorem dL_sets_243 : decode cL_sets 243 = .ok (.bipush 9, 2) := by decide +kernel
theorem dL_sets_245 : decode cL_sets 245 = .ok (.iadd, 1) := by decide +kernel
theorem dL_sets_246 : decode cL_sets 246 = .ok (.bipush 10, 2) := by decide +kernel
theorem dL_sets_248 : decode cL_sets 248 = .ok (.idiv, 1) := by decide +kernel
theorem dL_sets_249 : decode cL_sets 249 = .ok (.if_icmp .ne 88, 3) := by decide +kernel
theorem dL_sets_252 : decode cL_sets 252 = .ok (.aload_n 0, 1) := by decide +kernel
theorem dL_sets_253 : decode cL_sets 253 = .ok (.iconst 4, 1) := by decide +kernel
theorem dL_sets_254 : decode cL_sets 254 = .ok (.iconst 1, 1) := by decide +kernel
theorem dL_sets_255 : decode cL_sets 255 = .ok (.iconst 1, 1) := by decide +kernel
theorem dL_sets_256 : decode cL_sets 256 = .ok (.iconst 0, 1) := by decide +kernel
theorem dL_sets_257 : decode cL_sets 257 = .ok (.invokestatic 159, 3) := by decide +kernel
theorem dL_sets_260 : decode cL_sets 260 = .ok (.ldc 18, 2) := by decide +kernel
theorem dL_sets_262 : decode cL_sets 262 = .ok (.if_icmp .ne 75, 3) := by decide +kernel
theorem dL_sets_265 : decode cL_sets 265 = .ok (.aload_n 0, 1) := by decide +kernel
theorem dL_sets_266 : decode cL_sets 266 = .ok (.iconst 0, 1) := by decide +kernel
theorem dL_sets_267 : decode cL_sets 267 = .ok (.iconst 0, 1) := by decide +kernel
theorem dL_sets_268 : decode cL_sets 268 = .ok (.iconst 1, 1) := by decide +kernel
theorem dL_sets_269 : decode cL_sets 269 = .ok (.iconst 0, 1) := by decide +kernel
theorem dL_sets_270 : decode cL_sets 270 = .ok (.invokestatic 159, 3) := by decide +kernel
theorem dL_sets_273 : decode cL_sets 273 = .ok (.ldc 18, 2) := by decide +kernel
theorem dL_sets_275 : decode cL_sets 275 = .ok (.if_icmp .ne 62, 3) := by decide +kernel
theorem dL_sets_278 : decode cL_sets 278 = .ok (.aload_n 0, 1) := by decide +kernel
theorem dL_sets_279 : decode cL_sets 279 = .ok (.iconst 0, 1) := by decide +kernel
theorem dL_sets_280 : decode cL_sets 280 = .ok (.sipush 201, 3) := by decide +kernel
theorem dL_sets_283 : decode cL_sets 283 = .ok (.iconst 1, 1) := by decide +kernel
theorem dL_sets_284 : decode cL_sets 284 = .ok (.iconst 0, 1) := by decide +kernel
theorem dL_sets_285 : decode cL_sets 285 = .ok (.invokestatic 159, 3) := by decide +kernel
theorem dL_sets_288 : decode cL_sets 288 = .ok (.ldc 18, 2) := by decide +kernel
theorem dL_sets_290 : decode cL_sets 290 = .ok (.if_icmp .ne 47, 3) := by decide +kernel
theorem dL_sets_293 : decode cL_sets 293 = .ok (.aload_n 0, 1) := by decide +kernel
theorem dL_sets_294 : decode cL_sets 294 = .ok (.iconst 0, 1) := by decide +kernel
theorem dL_sets_295 : decode cL_sets 295 = .ok (.iconst 1, 1) := by decide +kernel
theorem dL_sets_296 : decode cL_sets 296 = .ok (.iconst 0, 1) := by decide +kernel
theorem dL_sets_297 : decode cL_sets 297 = .ok (.iconst 0, 1) := by decide +kernel
theorem dL_sets_298 : decode cL_sets 298 = .ok (.invokestatic 159, 3) := by decide +kernel
theorem dL_sets_301 : decode cL_sets 301 = .ok (.ldc 18, 2) := by decide +kernel
theorem dL_sets_303 : decode cL_sets 303 = .ok (.if_icmp .ne 34, 3) := by decide +kernel
theorem dL_sets_306 : decode cL_sets 306 = .ok (.aload_n 0, 1) := by decide +kernel
theorem dL_sets_307 : decode cL_sets 307 = .ok (.iconst 0, 1) := by decide +kernel
theorem dL_sets_308 : decode cL_sets 308 = .ok (.iconst 1, 1) := by decide +kernel
theorem dL_sets_309 : decode cL_sets 309 = .ok (.bipush 101, 2) := by decide +kernel
theorem dL_sets_311 : decode cL_sets 311 = .ok (.iconst 0, 1) := by decide +kernel
theorem dL_sets_312 : decode cL_sets 312 = .ok (.invokestatic 159, 3) := by decide +kernel
theorem dL_sets_315 : decode cL_sets 315 = .ok (.ldc 18, 2) := by decide +kernel
theorem dL_sets_317 : decode cL_sets 317 = .ok (.if_icmp .ne 20, 3) := by decide +kernel
theorem dL_sets_320 : decode cL_sets 320 = .ok (.aload_n 0, 1) := by decide +kernel
theorem dL_sets_321 : decode cL_sets 321 = .ok (.iconst 0, 1) := by decide +kernel
theorem dL_sets_322 : decode cL_sets 322 = .ok (.iconst 1, 1) := by decide +kernel
theorem dL_sets_323 : decode cL_sets 323 = .ok (.iconst 1, 1) := by decide +kernel
theorem dL_sets_324 : decode cL_sets 324 = .ok (.iconst 4, 1) := by decide +kernel
theorem dL_sets_325 : decode cL_sets 325 = .ok (.invokestatic 159, 3) := by decide +kernel
theorem dL_sets_328 : decode cL_sets 328 = .ok (.ldc 18, 2) := by decide +kernel
theorem dL_sets_330 : decode cL_sets 330 = .ok (.if_icmp .ne 7, 3) := by decide +kernel
theorem dL_sets_333 : decode cL_sets 333 = .ok (.iconst 1, 1) := by decide +kernel
theorem dL_sets_334 : decode cL_sets 334 = .ok (.goto 4, 3) := by decide +kernel
theorem dL_sets_337 : decode cL_sets 337 = .ok (.iconst 0, 1) := by decide +kernel
theorem dL_sets_338 : decode cL_sets 338 = .ok (.ireturn, 1) := by decide +kernel
theorem dL_sets_339 : decode cL_sets 339 = .ok (.iload 10, 2) := by decide +kernel
theorem dL_sets_341 : decode cL_sets 341 = .ok (.iconst 4, 1) := by decide +kernel
theorem dL_sets_342 : decode cL_sets 342 = .ok (.if_icmp .ge 184, 3) := by decide +kernel
theorem dL_sets_345 : decode cL_sets 345 = .ok (.iconst 0, 1) := by decide +kernel
theorem dL_sets_346 : decode cL_sets 346 = .ok (.istore 13, 2) := by decide +kernel
theorem dL_sets_348 : decode cL_sets 348 = .ok (.bipush 40, 2) := by decide +kernel
theorem dL_sets_350 : decode cL_sets 350 = .ok (.newarray .int, 2) := by decide +kernel
theorem dL_sets_352 : decode cL_sets 352 = .ok (.astore 14, 2) := by decide +kernel
theorem dL_sets_354 : decode cL_sets 354 = .ok (.iconst 0, 1) := by decide +kernel
theorem dL_sets_355 : decode cL_sets 355 = .ok (.istore 15, 2) := by decide +kernel
theorem dL_sets_357 : decode cL_sets 357 = .ok (.iload 15, 2) := by decide +kernel
theorem dL_sets_359 : decode cL_sets 359 = .ok (.aload 7, 2) := by decide +kernel
theorem dL_sets_361 : decode cL_sets 361 = .ok (.iconst 0, 1) := by decide +kernel
theorem dL_sets_362 : decode cL_sets 362 = .ok (.iaload, 1) := by decide +kernel
theorem dL_sets_363 : decode cL_sets 363 = .ok (.if_icmp .ge 29, 3) := by decide +kernel
theorem dL_sets_366 : decode cL_sets 366 = .ok (.aload 14, 2) := by decide +kernel
theorem dL_sets_368 : decode cL_sets 368 = .ok (.iload 15, 2) := by decide +kernel
theorem dL_sets_370 : decode cL_sets 370 = .ok (.aload_n 0, 1) := by decide +kernel
theorem dL_sets_371 : decode cL_sets 371 = .ok (.iload 15, 2) := by decide +kernel
theorem dL_sets_373 : decode cL_sets 373 = .ok (.invokestatic 101, 3) := by decide +kernel
theorem dL_sets_376 : decode cL_sets 376 = .ok (.iconst 1, 1) := by decide +kernel
theorem dL_sets_377 : decode cL_sets 377 = .ok (.if_icmp .ne 7, 3) := by decide +kernel
theorem dL_sets_380 : decode cL_sets 380 = .ok (.iconst 1, 1) := by decide +kernel
theorem dL_sets_381 : decode cL_sets 381 = .ok (.goto 4, 3) := by decide +kernel
theorem dL_sets_384 : decode cL_sets 384 = .ok (.iconst 0, 1) := by decide +kernel
theorem dL_sets_385 : decode cL_sets 385 = .ok (.iastore, 1) := by decide +kernel
theorem dL_sets_386 : decode cL_sets 386 = .ok (.iinc 15 1, 3) := by decide +kernel
theorem dL_sets_389 : decode cL_sets 389 = .ok (.goto (-32), 3) := by decide +kernel
theorem dL_sets_392 : decode cL_sets 392 = .ok (.aload_n 0, 1) := by decide +kernel
theorem dL_sets_393 : decode cL_sets 393 = .ok (.iload 8, 2) := by decide +kernel
theorem dL_sets_395 : decode cL_sets 395 = .ok (.iconst 4, 1) := by decide +kernel
theorem dL_sets_396 : decode cL_sets 396 = .ok (.ishr, 1) := by decide +kernel
theorem dL_sets_397 : decode cL_sets 397 = .ok (.iconst 4, 1) := by decide +kernel
theorem dL_sets_398 : decode cL_sets 398 = .ok (.invokestatic 149, 3) := by decide +kernel
theorem dL_sets_401 : decode cL_sets 401 = .ok (.iload 9, 2) := by decide +kernel
theorem dL_sets_403 : decode cL_sets 403 = .ok (.bipush 61, 2) := by decide +kernel
theorem dL_sets_405 : decode cL_sets 405 = .ok (.invokestatic 149, 3) := by decide +kernel
theorem dL_sets_408 : decode cL_sets 408 = .ok (.bipush 30, 2) := by decide +kernel
theorem dL_sets_410 : decode cL_sets 410 = .ok (.isub, 1) := by decide +kernel
theorem dL_sets_411 : decode cL_sets 411 = .ok (.iload 9, 2) := by decide +kernel
theorem dL_sets_413 : decode cL_sets 413 = .ok (.bipush 6, 2) := by decide +kernel
theorem dL_sets_415 : decode cL_sets 415 = .ok (.ishr, 1) := by decide +kernel
theorem dL_sets_416 : decode cL_sets 416 = .ok (.bipush 61, 2) := by decide +kernel
theorem dL_sets_418 : decode cL_sets 418 = .ok (.invokestatic 149, 3) := by decide +kernel
theorem dL_sets_421 : decode cL_sets 421 = .ok (.bipush 30, 2) := by decide +kernel
theorem dL_sets_423 : decode cL_sets 423 = .ok (.isub, 1) := by decide +kernel
theorem dL_sets_424 : decode cL_sets 424 = .ok (.invokestatic 162, 3) := by decide +kernel
theorem dL_sets_427 : decode cL_sets 427 = .ok (.istore 15, 2) := by decide +kernel
theorem dL_sets_429 : decode cL_sets 429 = .ok (.iconst 0, 1) := by decide +kernel
theorem dL_sets_430 : decode cL_sets 430 = .ok (.istore 16, 2) := by decide +kernel
theorem dL_sets_432 : decode cL_sets 432 = .ok (.iload 16, 2) := by decide +kernel
theorem dL_sets_434 : decode cL_sets 434 = .ok (.aload 7, 2) := by decide +kernel
theorem dL_sets_436 : decode cL_sets 436 = .ok (.iconst 0, 1) := by decide +kernel
theorem dL_sets_437 : decode cL_sets 437 = .ok (.iaload, 1) := by decide +kernel
theorem dL_sets_438 : decode cL_sets 438 = .ok (.if_icmp .ge 37, 3) := by decide +kernel
theorem dL_sets_441 : decode cL_sets 441 = .ok (.iload 13, 2) := by decide +kernel
theorem dL_sets_443 : decode cL_sets 443 = .ok (.aload_n 0, 1) := by decide +kernel
theorem dL_sets_444 : decode cL_sets 444 = .ok (.iload 16, 2) := by decide +kernel
theorem dL_sets_446 : decode cL_sets 446 = .ok (.invokestatic 101, 3) := by decide +kernel
theorem dL_sets_449 : decode cL_sets 449 = .ok (.iconst 1, 1) := by decide +kernel
theorem dL_sets_450 : decode cL_sets 450 = .ok (.if_icmp .ne 15, 3) := by decide +kernel
theorem dL_sets_453 : decode cL_sets 453 = .ok (.aload 14, 2) := by decide +kernel
theorem dL_sets_455 : decode cL_sets 455 = .ok (.iload 16, 2) := by decide +kernel
theorem dL_sets_457 : decode cL_sets 457 = .ok (.iaload, 1) := by decide +kernel
theorem dL_sets_458 : decode cL_sets 458 = .ok (.ifCond .ne 7, 3) := by decide +kernel
theorem dL_sets_461 : decode cL_sets 461 = .ok (.iconst 1, 1) := by decide +kernel
theorem dL_sets_462 : decode cL_sets 462 = .ok (.goto 4, 3) := by decide +kernel
theorem dL_sets_465 : decode cL_sets 465 = .ok (.iconst 0, 1) := by decide +kernel
theorem dL_sets_466 : decode cL_sets 466 = .ok (.iadd, 1) := by decide +kernel
theorem dL_sets_467 : decode cL_sets 467 = .ok (.istore 13, 2) := by decide +kernel
theorem dL_sets_469 : decode cL_sets 469 = .ok (.iinc 16 1, 3) := by decide +kernel
theorem dL_sets_472 : decode cL_sets 472 = .ok (.goto (-40), 3) := by decide +kernel
theorem dL_sets_475 : decode cL_sets 475 = .ok (.iload 15, 2) := by decide +kernel
theorem dL_sets_477 : decode cL_sets 477 = .ok (.iload 13, 2) := by decide +kernel
theorem dL_sets_479 : decode cL_sets 479 = .ok (.if_icmp .ne 45, 3) := by decide +kernel
theorem dL_sets_482 : decode cL_sets 482 = .ok (.aload_n 0, 1) := by decide +kernel
theorem dL_sets_483 : decode cL_sets 483 = .ok (.iconst 4, 1) := by decide +kernel
theorem dL_sets_484 : decode cL_sets 484 = .ok (.iconst 0, 1) := by decide +kernel
theorem dL_sets_485 : decode cL_sets 485 = .ok (.iconst 0, 1) := by decide +kernel
theorem dL_sets_486 : decode cL_sets 486 = .ok (.invokestatic 162, 3) := by decide +kernel
theorem dL_sets_489 : decode cL_sets 489 = .ok (.ldc 18, 2) := by decide +kernel
theorem dL_sets_491 : decode cL_sets 491 = .ok (.if_icmp .ne 33, 3) := by decide +kernel
theorem dL_sets_494 : decode cL_sets 494 = .ok (.aload_n 0, 1) := by decide +kernel
theorem dL_sets_495 : decode cL_sets 495 = .ok (.iconst 0, 1) := by decide +kernel
theorem dL_sets_496 : decode cL_sets 496 = .ok (.bipush 101, 2) := by decide +kernel
theorem dL_sets_498 : decode cL_sets 498 = .ok (.iconst 0, 1) := by decide +kernel
theorem dL_sets_499 : decode cL_sets 499 = .ok (.invokestatic 162, 3) := by decide +kernel
theorem dL_sets_502 : decode cL_sets 502 = .ok (.ldc 18, 2) := by decide +kernel
theorem dL_sets_504 : decode cL_sets 504 = .ok (.if_icmp .ne 20, 3) := by decide +kernel
theorem dL_sets_507 : decode cL_sets 507 = .ok (.aload_n 0, 1) := by decide +kernel
theorem dL_sets_508 : decode cL_sets 508 = .ok (.iconst 0, 1) := by decide +kernel
theorem dL_sets_509 : decode cL_sets 509 = .ok (.iconst 0, 1) := by decide +kernel
theorem dL_sets_510 : decode cL_sets 510 = .ok (.bipush (-101), 2) := by decide +kernel
theorem dL_sets_512 : decode cL_sets 512 = .ok (.invokestatic 162, 3) := by decide +kernel
theorem dL_sets_515 : decode cL_sets 515 = .ok (.ldc 18, 2) := by decide +kernel
theorem dL_sets_517 : decode cL_sets 517 = .ok (.if_icmp .ne 7, 3) := by decide +kernel
theorem dL_sets_520 : decode cL_sets 520 = .ok (.iconst 1, 1) := by decide +kernel
theorem dL_sets_521 : decode cL_sets 521 = .ok (.goto 4, 3) := by decide +kernel
theorem dL_sets_524 : decode cL_sets 524 = .ok (.iconst 0, 1) := by decide +kernel
theorem dL_sets_525 : decode cL_sets 525 = .ok (.ireturn, 1) := by decide +kernel
theorem dL_sets_526 : decode cL_sets 526 = .ok (.iload 10, 2) := by decide +kernel
theorem dL_sets_528 : decode cL_sets 528 = .ok (.bipush 6, 2) := by decide +kernel
theorem dL_sets_530 : decode cL_sets 530 = .ok (.if_icmp .ge 148, 3) := by decide +kernel
theorem dL_sets_533 : decode cL_sets 533 = .ok (.iload 9, 2) := by decide +kernel
theorem dL_sets_535 : decode cL_sets 535 = .ok (.bipush 6, 2) := by decide +kernel
theorem dL_sets_537 : decode cL_sets 537 = .ok (.ishr, 1) := by decide +kernel
theorem dL_sets_538 : decode cL_sets 538 = .ok (.iconst 3, 1) := by decide +kernel
theorem dL_sets_539 : decode cL_sets 539 = .ok (.invokestatic 149, 3) := by decide +kernel
theorem dL_sets_542 : decode cL_sets 542 = .ok (.ifCond .ne 18, 3) := by decide +kernel
theorem dL_sets_545 : decode cL_sets 545 = .ok (.iconst 1, 1) := by decide +kernel
theorem dL_sets_546 : decode cL_sets 546 = .ok (.iload 9, 2) := by decide +kernel
theorem dL_sets_548 : decode cL_sets 548 = .ok (.bipush 8, 2) := by decide +kernel
theorem dL_sets_550 : decode cL_sets 550 = .ok (.ishr, 1) := by decide +kernel
theorem dL_sets_551 : decode cL_sets 551 = .ok (.bipush 9, 2) := by decide +kernel
theorem dL_sets_553 : decode cL_sets 553 = .ok (.invokestatic 149, 3) := by decide +kernel
theorem dL_sets_556 : decode cL_sets 556 = .ok (.iadd, 1) := by decide +kernel
theorem dL_sets_557 : decode cL_sets 557 = .ok (.goto 4, 3) := by decide +kernel
theorem dL_sets_560 : decode cL_sets 560 = .ok (.iconst 0, 1) := by decide +kernel
theorem dL_sets_561 : decode cL_sets 561 = .ok (.istore 13, 2) := by decide +kernel
theorem dL_sets_563 : decode cL_sets 563 = .ok (.aload_n 3, 1) := by decide +kernel
theorem dL_sets_564 : decode cL_sets 564 = .ok (.bipush 8, 2) := by decide +kernel
theorem dL_sets_566 : decode cL_sets 566 = .ok (.iload 12, 2) := by decide +kernel
theorem dL_sets_568 : decode cL_sets 568 = .ok (.imul, 1) := by decide +kernel
theorem dL_sets_569 : decode cL_sets 569 = .ok (.iload 11, 2) := by decide +kernel
theorem dL_sets_571 : decode cL_sets 571 = .ok (.iadd, 1) := by decide +kernel
theorem dL_sets_572 : decode cL_sets 572 = .ok (.iaload, 1) := by decide +kernel
theorem dL_sets_573 : decode cL_sets 573 = .ok (.istore 14, 2) := by decide +kernel
theorem dL_sets_575 : decode cL_sets 575 = .ok (.aload_n 3, 1) := by decide +kernel
theorem dL_sets_576 : decode cL_sets 576 = .ok (.bipush 8, 2) := by decide +kernel
theorem dL_sets_578 : decode cL_sets 578 = .ok (.iload 12, 2) := by decide +kernel
theorem dL_sets_580 : decode cL_sets 580 = .ok (.imul, 1) := by decide +kernel
theorem dL_sets_581 : decode cL_sets 581 = .ok (.iload 11, 2) := by decide +kernel
theorem dL_sets_583 : decode cL_sets 583 = .ok (.iadd, 1) := by decide +kernel
theorem dL_sets_584 : decode cL_sets 584 = .ok (.iload 13, 2) := by decide +kernel
theorem dL_sets_586 : decode cL_sets 586 = .ok (.iastore, 1) := by decide +kernel
theorem dL_sets_587 : decode cL_sets 587 = .ok (.iconst 0, 1) := by decide +kernel
theorem dL_sets_588 : decode cL_sets 588 = .ok (.istore 15, 2) := by decide +kernel
theorem dL_sets_590 : decode cL_sets 590 = .ok (.iconst 0, 1) := by decide +kernel
theorem dL_sets_591 : decode cL_sets 591 = .ok (.istore 16, 2) := by decide +kernel
theorem dL_sets_593 : decode cL_sets 593 = .ok (.iload 16, 2) := by decide +kernel
theorem dL_sets_595 : decode cL_sets 595 = .ok (.bipush 64, 2) := by decide +kernel
theorem dL_sets_597 : decode cL_sets 597 = .ok (.if_icmp .ge 26, 3) := by decide +kernel
theorem dL_sets_600 : decode cL_sets 600 = .ok (.iload 15, 2) := by decide +kernel
theorem dL_sets_602 : decode cL_sets 602 = .ok (.aload_n 3, 1) := by decide +kernel
theorem dL_sets_603 : decode cL_sets 603 = .ok (.iload 16, 2) := by decide +kernel
theorem dL_sets_605 : decode cL_sets 605 = .ok (.iaload, 1) := by decide +kernel
theorem dL_sets_606 : decode cL_sets 606 = .ok (.ifCond .le 7, 3) := by decide +kernel
theorem dL_sets_609 : decode cL_sets 609 = .ok (.iconst 1, 1) := by decide +kernel
theorem dL_sets_610 : decode cL_sets 610 = .ok (.goto 4, 3) := by decide +kernel
theorem dL_sets_613 : decode cL_sets 613 = .ok (.iconst 0, 1) := by decide +kernel
theorem dL_sets_614 : decode cL_sets 614 = .ok (.iadd, 1) := by decide +kernel
theorem dL_sets_615 : decode cL_sets 615 = .ok (.istore 15, 2) := by decide +kernel
theorem dL_sets_617 : decode cL_sets 617 = .ok (.iinc 16 1, 3) := by decide +kernel
theorem dL_sets_620 : decode cL_sets 620 = .ok (.goto (-27), 3) := by decide +kernel
theorem dL_sets_623 : decode cL_sets 623 = .ok (.aload_n 0, 1) := by decide +kernel
theorem dL_sets_624 : decode cL_sets 624 = .ok (.iload 11, 2) := by decide +kernel
theorem dL_sets_626 : decode cL_sets 626 = .ok (.iload 12, 2) := by decide +kernel
theorem dL_sets_628 : decode cL_sets 628 = .ok (.iload 13, 2) := by decide +kernel
theorem dL_sets_630 : decode cL_sets 630 = .ok (.invokestatic 164, 3) := by decide +kernel
theorem dL_sets_633 : decode cL_sets 633 = .ok (.iload 14, 2) := by decide +kernel
theorem dL_sets_635 : decode cL_sets 635 = .ok (.if_icmp .ne 41, 3) := by decide +kernel
theorem dL_sets_638 : decode cL_sets 638 = .ok (.aload_n 0, 1) := by decide +kernel
theorem dL_sets_639 : decode cL_sets 639 = .ok (.invokevirtual 166, 3) := by decide +kernel
theorem dL_sets_642 : decode cL_sets 642 = .ok (.iload 15, 2) := by decide +kernel
theorem dL_sets_644 : decode cL_sets 644 = .ok (.if_icmp .ne 32, 3) := by decide +kernel
theorem dL_sets_647 : decode cL_sets 647 = .ok (.aload_n 0, 1) := by decide +kernel
theorem dL_sets_648 : decode cL_sets 648 = .ok (.bipush 8, 2) := by decide +kernel
theorem dL_sets_650 : decode cL_sets 650 = .ok (.iconst 0, 1) := by decide +kernel
theorem dL_sets_651 : decode cL_sets 651 = .ok (.iconst 0, 1) := by decide +kernel
theorem dL_sets_652 : decode cL_sets 652 = .ok (.invokestatic 164, 3) := by decide +kernel
theorem dL_sets_655 : decode cL_sets 655 = .ok (.ldc 18, 2) := by decide +kernel
theorem dL_sets_657 : decode cL_sets 657 = .ok (.if_icmp .ne 19, 3) := by decide +kernel
theorem dL_sets_660 : decode cL_sets 660 = .ok (.aload_n 0, 1) := by decide +kernel
theorem dL_sets_661 : decode cL_sets 661 = .ok (.iconst 0, 1) := by decide +kernel
theorem dL_sets_662 : decode cL_sets 662 = .ok (.iconst 0, 1) := by decide +kernel
theorem dL_sets_663 : decode cL_sets 663 = .ok (.iconst (-1), 1) := by decide +kernel
theorem dL_sets_664 : decode cL_sets 664 = .ok (.invokestatic 164, 3) := by decide +kernel
theorem dL_sets_667 : decode cL_sets 667 = .ok (.ldc 18, 2) := by decide +kernel
theorem dL_sets_669 : decode cL_sets 669 = .ok (.if_icmp .ne 7, 3) := by decide +kernel
theorem dL_sets_672 : decode cL_sets 672 = .ok (.iconst 1, 1) := by decide +kernel
theorem dL_sets_673 : decode cL_sets 673 = .ok (.goto 4, 3) := by decide +kernel
theorem dL_sets_676 : decode cL_sets 676 = .ok (.iconst 0, 1) := by decide +kernel
theorem dL_sets_677 : decode cL_sets 677 = .ok (.ireturn, 1) := by decide +kernel
theorem dL_sets_678 : decode cL_sets 678 = .ok (.iload 10, 2) := by decide +kernel
theorem dL_sets_680 : decode cL_sets 680 = .ok (.bipush 6, 2) := by decide +kernel
theorem dL_sets_682 : decode cL_sets 682 = .ok (.if_icmp .ne 134, 3) := by decide +kernel
theorem dL_sets_685 : decode cL_sets 685 = .ok (.aload 4, 2) := by decide +kernel
theorem dL_sets_687 : decode cL_sets 687 = .ok (.bipush 8, 2) := by decide +kernel
theorem dL_sets_689 : decode cL_sets 689 = .ok (.iload 12, 2) := by decide +kernel
theorem dL_sets_691 : decode cL_sets 691 = .ok (.imul, 1) := by decide +kernel
theorem dL_sets_692 : decode cL_sets 692 = .ok (.iload 11, 2) := by decide +kernel
theorem dL_sets_694 : decode cL_sets 694 = .ok (.iadd, 1) := by decide +kernel
theorem dL_sets_695 : decode cL_sets 695 = .ok (.iaload, 1) := by decide +kernel
theorem dL_sets_696 : decode cL_sets 696 = .ok (.istore 13, 2) := by decide +kernel
theorem dL_sets_698 : decode cL_sets 698 = .ok (.aload 4, 2) := by decide +kernel
theorem dL_sets_700 : decode cL_sets 700 = .ok (.bipush 8, 2) := by decide +kernel
theorem dL_sets_702 : decode cL_sets 702 = .ok (.iload 12, 2) := by decide +kernel
theorem dL_sets_704 : decode cL_sets 704 = .ok (.imul, 1) := by decide +kernel
theorem dL_sets_705 : decode cL_sets 705 = .ok (.iload 11, 2) := by decide +kernel
theorem dL_sets_707 : decode cL_sets 707 = .ok (.iadd, 1) := by decide +kernel
theorem dL_sets_708 : decode cL_sets 708 = .ok (.iload 9, 2) := by decide +kernel
theorem dL_sets_710 : decode cL_sets 710 = .ok (.bipush 6, 2) := by decide +kernel
theorem dL_sets_712 : decode cL_sets 712 = .ok (.ishr, 1) := by decide +kernel
theorem dL_sets_713 : decode cL_sets 713 = .ok (.iconst 3, 1) := by decide +kernel
theorem dL_sets_714 : decode cL_sets 714 = .ok (.invokestatic 149, 3) := by decide +kernel
theorem dL_sets_717 : decode cL_sets 717 = .ok (.ifCond .ne 19, 3) := by decide +kernel
theorem dL_sets_720 : decode cL_sets 720 = .ok (.ldc 169, 2) := by decide +kernel
theorem dL_sets_722 : decode cL_sets 722 = .ok (.iload 9, 2) := by decide +kernel
theorem dL_sets_724 : decode cL_sets 724 = .ok (.bipush 8, 2) := by decide +kernel
theorem dL_sets_726 : decode cL_sets 726 = .ok (.ishr, 1) := by decide +kernel
theorem dL_sets_727 : decode cL_sets 727 = .ok (.bipush 9, 2) := by decide +kernel
theorem dL_sets_729 : decode cL_sets 729 = .ok (.invokestatic 149, 3) := by decide +kernel
theorem dL_sets_732 : decode cL_sets 732 = .ok (.isub, 1) := by decide +kernel
theorem dL_sets_733 : decode cL_sets 733 = .ok (.goto 14, 3) := by decide +kernel
theorem dL_sets_736 : decode cL_sets 736 = .ok (.iload 9, 2) := by decide +kernel
theorem dL_sets_738 : decode cL_sets 738 = .ok (.bipush 8, 2) := by decide +kernel
theorem dL_sets_740 : decode cL_sets 740 = .ok (.ishr, 1) := by decide +kernel
theorem dL_sets_741 : decode cL_sets 741 = .ok (.sipush 1000, 3) := by decide +kernel
theorem dL_sets_744 : decode cL_sets 744 = .ok (.invokestatic 149, 3) := by decide +kernel
theorem dL_sets_747 : decode cL_sets 747 = .ok (.iastore, 1) := by decide +kernel
theorem dL_sets_748 : decode cL_sets 748 = .ok (.aload_n 0, 1) := by decide +kernel
theorem dL_sets_749 : decode cL_sets 749 = .ok (.iload 11, 2) := by decide +kernel
theorem dL_sets_751 : decode cL_sets 751 = .ok (.iload 12, 2) := by decide +kernel
theorem dL_sets_753 : decode cL_sets 753 = .ok (.aload 4, 2) := by decide +kernel
theorem dL_sets_755 : decode cL_sets 755 = .ok (.bipush 8, 2) := by decide +kernel
theorem dL_sets_757 : decode cL_sets 757 = .ok (.iload 12, 2) := by decide +kernel
theorem dL_sets_759 : decode cL_sets 759 = .ok (.imul, 1) := by decide +kernel
theorem dL_sets_760 : decode cL_sets 760 = .ok (.iload 11, 2) := by decide +kernel
theorem dL_sets_762 : decode cL_sets 762 = .ok (.iadd, 1) := by decide +kernel
theorem dL_sets_763 : decode cL_sets 763 = .ok (.iaload, 1) := by decide +kernel
theorem dL_sets_764 : decode cL_sets 764 = .ok (.invokestatic 170, 3) := by decide +kernel
theorem dL_sets_767 : decode cL_sets 767 = .ok (.iload 13, 2) := by decide +kernel
theorem dL_sets_769 : decode cL_sets 769 = .ok (.if_icmp .ne 45, 3) := by decide +kernel
theorem dL_sets_772 : decode cL_sets 772 = .ok (.aload_n 0, 1) := by decide +kernel
theorem dL_sets_773 : decode cL_sets 773 = .ok (.iconst 0, 1) := by decide +kernel
theorem dL_sets_774 : decode cL_sets 774 = .ok (.bipush 8, 2) := by decide +kernel
theorem dL_sets_776 : decode cL_sets 776 = .ok (.iconst 0, 1) := by decide +kernel
theorem dL_sets_777 : decode cL_sets 777 = .ok (.invokestatic 170, 3) := by decide +kernel
theorem dL_sets_780 : decode cL_sets 780 = .ok (.ldc 18, 2) := by decide +kernel
theorem dL_sets_782 : decode cL_sets 782 = .ok (.if_icmp .ne 32, 3) := by decide +kernel
theorem dL_sets_785 : decode cL_sets 785 = .ok (.aload_n 0, 1) := by decide +kernel
theorem dL_sets_786 : decode cL_sets 786 = .ok (.iconst 0, 1) := by decide +kernel
theorem dL_sets_787 : decode cL_sets 787 = .ok (.iconst 0, 1) := by decide +kernel
theorem dL_sets_788 : decode cL_sets 788 = .ok (.ldc 172, 2) := by decide +kernel
theorem dL_sets_790 : decode cL_sets 790 = .ok (.invokestatic 170, 3) := by decide +kernel
theorem dL_sets_793 : decode cL_sets 793 = .ok (.ldc 18, 2) := by decide +kernel
theorem dL_sets_795 : decode cL_sets 795 = .ok (.if_icmp .ne 19, 3) := by decide +kernel
theorem dL_sets_798 : decode cL_sets 798 = .ok (.aload_n 0, 1) := by decide +kernel
theorem dL_sets_799 : decode cL_sets 799 = .ok (.iconst 0, 1) := by decide +kernel
theorem dL_sets_800 : decode cL_sets 800 = .ok (.iconst 0, 1) := by decide +kernel
theorem dL_sets_801 : decode cL_sets 801 = .ok (.iconst (-1), 1) := by decide +kernel
theorem dL_sets_802 : decode cL_sets 802 = .ok (.invokestatic 170, 3) := by decide +kernel
theorem dL_sets_805 : decode cL_sets 805 = .ok (.ldc 18, 2) := by decide +kernel
theorem dL_sets_807 : decode cL_sets 807 = .ok (.if_icmp .ne 7, 3) := by decide +kernel
theorem dL_sets_810 : decode cL_sets 810 = .ok (.iconst 1, 1) := by decide +kernel
theorem dL_sets_811 : decode cL_sets 811 = .ok (.goto 4, 3) := by decide +kernel
theorem dL_sets_814 : decode cL_sets 814 = .ok (.iconst 0, 1) := by decide +kernel
theorem dL_sets_815 : decode cL_sets 815 = .ok (.ireturn, 1) := by decide +kernel
theorem dL_sets_816 : decode cL_sets 816 = .ok (.iload 10, 2) := by decide +kernel
theorem dL_sets_818 : decode cL_sets 818 = .ok (.bipush 7, 2) := by decide +kernel
theorem dL_sets_820 : decode cL_sets 820 = .ok (.if_icmp .ne 118, 3) := by decide +kernel
theorem dL_sets_823 : decode cL_sets 823 = .ok (.iload 9, 2) := by decide +kernel
theorem dL_sets_825 : decode cL_sets 825 = .ok (.bipush 10, 2) := by decide +kernel
theorem dL_sets_827 : decode cL_sets 827 = .ok (.invokestatic 149, 3) := by decide +kernel
theorem dL_sets_830 : decode cL_sets 830 = .ok (.istore 13, 2) := by decide +kernel
theorem dL_sets_832 : decode cL_sets 832 = .ok (.aload 5, 2) := by decide +kernel
theorem dL_sets_834 : decode cL_sets 834 = .ok (.iload 13, 2) := by decide +kernel
theorem dL_sets_836 : decode cL_sets 836 = .ok (.iaload, 1) := by decide +kernel
theorem dL_sets_837 : decode cL_sets 837 = .ok (.istore 14, 2) := by decide +kernel
theorem dL_sets_839 : decode cL_sets 839 = .ok (.aload 5, 2) := by decide +kernel
theorem dL_sets_841 : decode cL_sets 841 = .ok (.iload 13, 2) := by decide +kernel
theorem dL_sets_843 : decode cL_sets 843 = .ok (.iload 9, 2) := by decide +kernel
theorem dL_sets_845 : decode cL_sets 845 = .ok (.iconst 4, 1) := by decide +kernel
theorem dL_sets_846 : decode cL_sets 846 = .ok (.ishr, 1) := by decide +kernel
theorem dL_sets_847 : decode cL_sets 847 = .ok (.iconst 3, 1) := by decide +kernel
theorem dL_sets_848 : decode cL_sets 848 = .ok (.invokestatic 149, 3) := by decide +kernel
theorem dL_sets_851 : decode cL_sets 851 = .ok (.ifCond .ne 19, 3) := by decide +kernel
theorem dL_sets_854 : decode cL_sets 854 = .ok (.ldc 173, 2) := by decide +kernel
theorem dL_sets_856 : decode cL_sets 856 = .ok (.iload 9, 2) := by decide +kernel
theorem dL_sets_858 : decode cL_sets 858 = .ok (.bipush 6, 2) := by decide +kernel
theorem dL_sets_860 : decode cL_sets 860 = .ok (.ishr, 1) := by decide +kernel
theorem dL_sets_861 : decode cL_sets 861 = .ok (.bipush 9, 2) := by decide +kernel
theorem dL_sets_863 : decode cL_sets 863 = .ok (.invokestatic 149, 3) := by decide +kernel
theorem dL_sets_866 : decode cL_sets 866 = .ok (.isub, 1) := by decide +kernel
theorem dL_sets_867 : decode cL_sets 867 = .ok (.goto 13, 3) := by decide +kernel
theorem dL_sets_870 : decode cL_sets 870 = .ok (.iload 9, 2) := by decide +kernel
theorem dL_sets_872 : decode cL_sets 872 = .ok (.bipush 6, 2) := by decide +kernel
theorem dL_sets_874 : decode cL_sets 874 = .ok (.ishr, 1) := by decide +kernel
theorem dL_sets_875 : decode cL_sets 875 = .ok (.bipush 9, 2) := by decide +kernel
theorem dL_sets_877 : decode cL_sets 877 = .ok (.invokestatic 149, 3) := by decide +kernel
theorem dL_sets_880 : decode cL_sets 880 = .ok (.iastore, 1) := by decide +kernel
theorem dL_sets_881 : decode cL_sets 881 = .ok (.aload_n 0, 1) := by decide +kernel
theorem dL_sets_882 : decode cL_sets 882 = .ok (.iload 13, 2) := by decide +kernel
theorem dL_sets_884 : decode cL_sets 884 = .ok (.aload 5, 2) := by decide +kernel
theorem dL_sets_886 : decode cL_sets 886 = .ok (.iload 13, 2) := by decide +kernel
theorem dL_sets_888 : decode cL_sets 888 = .ok (.iaload, 1) := by decide +kernel
theorem dL_sets_889 : decode cL_sets 889 = .ok (.invokestatic 174, 3) := by decide +kernel
theorem dL_sets_892 : decode cL_sets 892 = .ok (.iload 14, 2) := by decide +kernel
theorem dL_sets_894 : decode cL_sets 894 = .ok (.if_icmp .ne 42, 3) := by decide +kernel
theorem dL_sets_897 : decode cL_sets 897 = .ok (.aload_n 0, 1) := by decide +kernel
theorem dL_sets_898 : decode cL_sets 898 = .ok (.bipush 10, 2) := by decide +kernel
theorem dL_sets_900 : decode cL_sets 900 = .ok (.iconst 0, 1) := by decide +kernel
theorem dL_sets_901 : decode cL_sets 901 = .ok (.invokestatic 174, 3) := by decide +kernel
theorem dL_sets_904 : decode cL_sets 904 = .ok (.ldc 18, 2) := by decide +kernel
theorem dL_sets_906 : decode cL_sets 906 = .ok (.if_icmp .ne 30, 3) := by decide +kernel
theorem dL_sets_909 : decode cL_sets 909 = .ok (.aload_n 0, 1) := by decide +kernel
theorem dL_sets_910 : decode cL_sets 910 = .ok (.iconst 0, 1) := by decide +kernel
theorem dL_sets_911 : decode cL_sets 911 = .ok (.ldc 176, 2) := by decide +kernel
theorem dL_sets_913 : decode cL_sets 913 = .ok (.invokestatic 174, 3) := by decide +kernel
theorem dL_sets_916 : decode cL_sets 916 = .ok (.ldc 18, 2) := by decide +kernel
theorem dL_sets_918 : decode cL_sets 918 = .ok (.if_icmp .ne 18, 3) := by decide +kernel
theorem dL_sets_921 : decode cL_sets 921 = .ok (.aload_n 0, 1) := by decide +kernel
theorem dL_sets_922 : decode cL_sets 922 = .ok (.iconst 0, 1) := by decide +kernel
theorem dL_sets_923 : decode cL_sets 923 = .ok (.iconst (-1), 1) := by decide +kernel
theorem dL_sets_924 : decode cL_sets 924 = .ok (.invokestatic 174, 3) := by decide +kernel
theorem dL_sets_927 : decode cL_sets 927 = .ok (.ldc 18, 2) := by decide +kernel
theorem dL_sets_929 : decode cL_sets 929 = .ok (.if_icmp .ne 7, 3) := by decide +kernel
theorem dL_sets_932 : decode cL_sets 932 = .ok (.iconst 1, 1) := by decide +kernel
theorem dL_sets_933 : decode cL_sets 933 = .ok (.goto 4, 3) := by decide +kernel
theorem dL_sets_936 : decode cL_sets 936 = .ok (.iconst 0, 1) := by decide +kernel
theorem dL_sets_937 : decode cL_sets 937 = .ok (.ireturn, 1) := by decide +kernel
theorem dL_sets_938 : decode cL_sets 938 = .ok (.iload 10, 2) := by decide +kernel
theorem dL_sets_940 : decode cL_sets 940 = .ok (.bipush 10, 2) := by decide +kernel
theorem dL_sets_942 : decode cL_sets 942 = .ok (.if_icmp .ge 74, 3) := by decide +kernel
theorem dL_sets_945 : decode cL_sets 945 = .ok (.iload 9, 2) := by decide +kernel
theorem dL_sets_947 : decode cL_sets 947 = .ok (.bipush 32, 2) := by decide +kernel
theorem dL_sets_949 : decode cL_sets 949 = .ok (.invokestatic 149, 3) := by decide +kernel
theorem dL_sets_952 : decode cL_sets 952 = .ok (.istore 13, 2) := by decide +kernel
theorem dL_sets_954 : decode cL_sets 954 = .ok (.aload 6, 2) := by decide +kernel
theorem dL_sets_956 : decode cL_sets 956 = .ok (.iload 13, 2) := by decide +kernel
theorem dL_sets_958 : decode cL_sets 958 = .ok (.iconst 1, 1) := by decide +kernel
theorem dL_sets_959 : decode cL_sets 959 = .ok (.aload 6, 2) := by decide +kernel
theorem dL_sets_961 : decode cL_sets 961 = .ok (.iload 13, 2) := by decide +kernel
theorem dL_sets_963 : decode cL_sets 963 = .ok (.iaload, 1) := by decide +kernel
theorem dL_sets_964 : decode cL_sets 964 = .ok (.isub, 1) := by decide +kernel
theorem dL_sets_965 : decode cL_sets 965 = .ok (.iastore, 1) := by decide +kernel
theorem dL_sets_966 : decode cL_sets 966 = .ok (.aload_n 0, 1) := by decide +kernel
theorem dL_sets_967 : decode cL_sets 967 = .ok (.iload 13, 2) := by decide +kernel
theorem dL_sets_969 : decode cL_sets 969 = .ok (.bipush 8, 2) := by decide +kernel
theorem dL_sets_971 : decode cL_sets 971 = .ok (.idiv, 1) := by decide +kernel
theorem dL_sets_972 : decode cL_sets 972 = .ok (.iload 13, 2) := by decide +kernel
theorem dL_sets_974 : decode cL_sets 974 = .ok (.bipush 8, 2) := by decide +kernel
theorem dL_sets_976 : decode cL_sets 976 = .ok (.irem, 1) := by decide +kernel
theorem dL_sets_977 : decode cL_sets 977 = .ok (.invokestatic 177, 3) := by decide +kernel
theorem dL_sets_980 : decode cL_sets 980 = .ok (.aload 6, 2) := by decide +kernel
theorem dL_sets_982 : decode cL_sets 982 = .ok (.iload 13, 2) := by decide +kernel
theorem dL_sets_984 : decode cL_sets 984 = .ok (.iaload, 1) := by decide +kernel
theorem dL_sets_985 : decode cL_sets 985 = .ok (.if_icmp .ne 29, 3) := by decide +kernel
theorem dL_sets_988 : decode cL_sets 988 = .ok (.aload_n 0, 1) := by decide +kernel
theorem dL_sets_989 : decode cL_sets 989 = .ok (.iconst 4, 1) := by decide +kernel
theorem dL_sets_990 : decode cL_sets 990 = .ok (.iconst 0, 1) := by decide +kernel
theorem dL_sets_991 : decode cL_sets 991 = .ok (.invokestatic 177, 3) := by decide +kernel
theorem dL_sets_994 : decode cL_sets 994 = .ok (.ldc 18, 2) := by decide +kernel
theorem dL_sets_996 : decode cL_sets 996 = .ok (.if_icmp .ne 18, 3) := by decide +kernel
theorem dL_sets_999 : decode cL_sets 999 = .ok (.aload_n 0, 1) := by decide +kernel
theorem dL_sets_1000 : decode cL_sets 1000 = .ok (.iconst 0, 1) := by decide +kernel
theorem dL_sets_1001 : decode cL_sets 1001 = .ok (.iconst (-1), 1) := by decide +kernel
theorem dL_sets_1002 : decode cL_sets 1002 = .ok (.invokestatic 177, 3) := by decide +kernel
theorem dL_sets_1005 : decode cL_sets 1005 = .ok (.ldc 18, 2) := by decide +kernel
theorem dL_sets_1007 : decode cL_sets 1007 = .ok (.if_icmp .ne 7, 3) := by decide +kernel
theorem dL_sets_1010 : decode cL_sets 1010 = .ok (.iconst 1, 1) := by decide +kernel
theorem dL_sets_1011 : decode cL_sets 1011 = .ok (.goto 4, 3) := by decide +kernel
theorem dL_sets_1014 : decode cL_sets 1014 = .ok (.iconst 0, 1) := by decide +kernel
theorem dL_sets_1015 : decode cL_sets 1015 = .ok (.ireturn, 1) := by decide +kernel
theorem dL_sets_1016 : decode cL_sets 1016 = .ok (.iload 10, 2) := by decide +kernel
theorem dL_sets_1018 : decode cL_sets 1018 = .ok (.bipush 10, 2) := by decide +kernel
theorem dL_sets_1020 : decode cL_sets 1020 = .ok (.if_icmp .ne 60, 3) := by decide +kernel
theorem dL_sets_1023 : decode cL_sets 1023 = .ok (.aload 7, 2) := by decide +kernel
theorem dL_sets_1025 : decode cL_sets 1025 = .ok (.iconst 3, 1) := by decide +kernel
theorem dL_sets_1026 : decode cL_sets 1026 = .ok (.iaload, 1) := by decide +kernel
theorem dL_sets_1027 : decode cL_sets 1027 = .ok (.istore 13, 2) := by decide +kernel
theorem dL_sets_1029 : decode cL_sets 1029 = .ok (.aload 7, 2) := by decide +kernel
theorem dL_sets_1031 : decode cL_sets 1031 = .ok (.iconst 3, 1) := by decide +kernel
theorem dL_sets_1032 : decode cL_sets 1032 = .ok (.iload 9, 2) := by decide +kernel
theorem dL_sets_1034 : decode cL_sets 1034 = .ok (.bipush 21, 2) := by decide +kernel
theorem dL_sets_1036 : decode cL_sets 1036 = .ok (.invokestatic 149, 3) := by decide +kernel
theorem dL_sets_1039 : decode cL_sets 1039 = .ok (.iastore, 1) := by decide +kernel
theorem dL_sets_1040 : decode cL_sets 1040 = .ok (.aload_n 0, 1) := by decide +kernel
