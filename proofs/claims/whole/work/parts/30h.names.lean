set_option maxRecDepth 20000 in
theorem ggL_setRack_X9_setRack : GoodIn wsL_setRack wsX9_setRack := goodIn_ca (goodIn_r _ [6, 7, 8, 9, 10, 11, 12, 13, 14, 5, 15, 16, 17, 18, 19, 20, 21, 22, 23, 24, 25, 26, 27, 28, 29, 30, 31, 32, 33, 34, 35, 36, 37, 38] (by decide +kernel) (by decide +kernel)) (goodIn_sub (fun _ h => List.mem_cons_of_mem _ (List.mem_append_right _ h)) (by decide +kernel))
set_option maxRecDepth 20000 in
theorem gL_setRack_X9_setRack : GoodIn wsL_setRack (wsV RL 7 RX9 yX9_setRack wsX9_setRack) := goodIn_app (goodIn_of _ (by decide +kernel)) ggL_setRack_X9_setRack
theorem dL_setRack_0 : decode cL_setRack 0 = .ok (.aload 4, 2) := by decide +kernel
theorem dL_setRack_2 : decode cL_setRack 2 = .ok (.iconst 0, 1) := by decide +kernel
theorem dL_setRack_3 : decode cL_setRack 3 = .ok (.aload_n 0, 1) := by decide +kernel
theorem dL_setRack_4 : decode cL_setRack 4 = .ok (.iload_n 1, 1) := by decide +kernel
theorem dL_setRack_5 : decode cL_setRack 5 = .ok (.iload_n 2, 1) := by decide +kernel
theorem dL_setRack_6 : decode cL_setRack 6 = .ok (.iload_n 3, 1) := by decide +kernel
theorem dL_setRack_7 : decode cL_setRack 7 = .ok (.invokevirtual 7, 3) := by decide +kernel
theorem dL_setRack_10 : decode cL_setRack 10 = .ok (.i2l, 1) := by decide +kernel
theorem dL_setRack_11 : decode cL_setRack 11 = .ok (.lastore, 1) := by decide +kernel
theorem dL_setRack_12 : decode cL_setRack 12 = .ok (.goto 7, 3) := by decide +kernel
theorem dL_setRack_15 : decode cL_setRack 15 = .ok (.astore 5, 2) := by decide +kernel
theorem dL_setRack_17 : decode cL_setRack 17 = .ok (.iconst 1, 1) := by decide +kernel
theorem dL_setRack_18 : decode cL_setRack 18 = .ok (.ireturn, 1) := by decide +kernel
theorem dL_setRack_19 : decode cL_setRack 19 = .ok (.iconst 0, 1) := by decide +kernel
theorem dL_setRack_20 : decode cL_setRack 20 = .ok (.ireturn, 1) := by decide +kernel
set_option maxRecDepth 20000 in
theorem ggL_setShell_X9_setShell : GoodIn wsL_setShell wsX9_setShell := goodIn_ca (goodIn_r _ [6, 7, 8, 9, 10, 11, 12, 13, 5, 14, 15, 16, 17, 18, 19, 20, 21, 22, 23, 24, 25, 26, 27, 28, 29, 30, 31, 32, 33, 34, 35, 36, 37, 38, 39, 40, 41, 42, 43, 44, 45, 46, 47, 48, 49, 50, 51, 52, 53, 54, 55, 56, 57, 58, 59, 60, 61, 62, 63, 64, 65, 66, 67, 68, 69, 70, 71, 72, 73, 74, 75, 76, 77, 78, 79, 80, 81, 82, 83, 84, 85] (by decide +kernel) (by decide +kernel)) (goodIn_sub (fun _ h => List.mem_cons_of_mem _ (List.mem_append_right _ h)) (by decide +kernel))
set_option maxRecDepth 20000 in
theorem gL_setShell_X9_setShell : GoodIn wsL_setShell (wsV RL 15 RX9 yX9_setShell wsX9_setShell) := goodIn_app (goodIn_of _ (by decide +kernel)) ggL_setShell_X9_setShell
theorem dL_setShell_0 : decode cL_setShell 0 = .ok (.aload 5, 2) := by decide +kernel
theorem dL_setShell_2 : decode cL_setShell 2 = .ok (.iconst 0, 1) := by decide +kernel
theorem dL_setShell_3 : decode cL_setShell 3 = .ok (.aload_n 0, 1) := by decide +kernel
theorem dL_setShell_4 : decode cL_setShell 4 = .ok (.iload_n 1, 1) := by decide +kernel
theorem dL_setShell_5 : decode cL_setShell 5 = .ok (.iload_n 2, 1) := by decide +kernel
theorem dL_setShell_6 : decode cL_setShell 6 = .ok (.iload_n 3, 1) := by decide +kernel
theorem dL_setShell_7 : decode cL_setShell 7 = .ok (.iload 4, 2) := by decide +kernel
theorem dL_setShell_9 : decode cL_setShell 9 = .ok (.invokevirtual 15, 3) := by decide +kernel
theorem dL_setShell_12 : decode cL_setShell 12 = .ok (.i2l, 1) := by decide +kernel
theorem dL_setShell_13 : decode cL_setShell 13 = .ok (.lastore, 1) := by decide +kernel
theorem dL_setShell_14 : decode cL_setShell 14 = .ok (.goto 7, 3) := by decide +kernel
theorem dL_setShell_17 : decode cL_setShell 17 = .ok (.astore 6, 2) := by decide +kernel
theorem dL_setShell_19 : decode cL_setShell 19 = .ok (.iconst 1, 1) := by decide +kernel
theorem dL_setShell_20 : decode cL_setShell 20 = .ok (.ireturn, 1) := by decide +kernel
theorem dL_setShell_21 : decode cL_setShell 21 = .ok (.iconst 0, 1) := by decide +kernel
theorem dL_setShell_22 : decode cL_setShell 22 = .ok (.ireturn, 1) := by decide +kernel
set_option maxRecDepth 20000 in
theorem ggL_setWind_X9_setWind : GoodIn wsL_setWind wsX9_setWind := goodIn_ca (goodIn_r _ [6, 7, 8, 9, 10, 11, 12, 13, 14, 15, 5, 16, 17, 18, 19, 20, 21, 22, 23, 24, 25, 26, 27, 28, 29, 30, 31, 32, 33, 34, 35, 36, 37, 38, 39, 40, 41, 42, 43, 44, 45, 46, 47, 48, 49, 50, 51, 52, 53, 54, 55, 56, 57, 58, 59, 60, 61, 62, 63, 64, 65, 66, 67, 68, 69, 70, 71, 72, 73, 74, 75, 76, 77, 78, 79, 80, 81, 82, 83, 84, 85, 86, 87, 88, 89, 90, 91, 92, 93, 94, 95, 96, 97, 98, 99, 100, 101, 102, 103, 104, 105, 106, 107, 108, 109, 110, 111, 112, 113, 114, 115, 116, 117, 118, 119, 120, 121, 122, 123, 124, 125, 126, 127, 128, 129, 130, 131, 132, 133, 134, 135, 136, 137, 138, 139, 140, 141, 142, 143, 144, 145, 146, 147, 148, 149, 150, 151, 152, 153, 154, 155, 156, 157, 158, 159, 160, 161, 162, 163, 164, 165, 166, 167, 168, 169, 170, 171, 172, 173, 174, 175, 176, 177, 178, 179, 180, 181, 182, 183, 184, 185, 186, 187, 188, 189, 190, 191, 192] (by decide +kernel) (by decide +kernel)) (goodIn_sub (fun _ h => List.mem_cons_of_mem _ (List.mem_append_right _ h)) (by decide +kernel))
set_option maxRecDepth 20000 in
theorem gL_setWind_X9_setWind : GoodIn wsL_setWind (wsV RL 19 RX9 yX9_setWind wsX9_setWind) := goodIn_app (goodIn_of _ (by decide +kernel)) ggL_setWind_X9_setWind
theorem dL_setWind_0 : decode cL_setWind 0 = .ok (.aload 4, 2) := by decide +kernel
theorem dL_setWind_2 : decode cL_setWind 2 = .ok (.iconst 0, 1) := by decide +kernel
theorem dL_setWind_3 : decode cL_setWind 3 = .ok (.aload_n 0, 1) := by decide +kernel
theorem dL_setWind_4 : decode cL_setWind 4 = .ok (.iload_n 1, 1) := by decide +kernel
theorem dL_setWind_5 : decode cL_setWind 5 = .ok (.iload_n 2, 1) := by decide +kernel
theorem dL_setWind_6 : decode cL_setWind 6 = .ok (.iload_n 3, 1) := by decide +kernel
theorem dL_setWind_7 : decode cL_setWind 7 = .ok (.invokevirtual 19, 3) := by decide +kernel
theorem dL_setWind_10 : decode cL_setWind 10 = .ok (.i2l, 1) := by decide +kernel
theorem dL_setWind_11 : decode cL_setWind 11 = .ok (.lastore, 1) := by decide +kernel
theorem dL_setWind_12 : decode cL_setWind 12 = .ok (.goto 7, 3) := by decide +kernel
theorem dL_setWind_15 : decode cL_setWind 15 = .ok (.astore 5, 2) := by decide +kernel
theorem dL_setWind_17 : decode cL_setWind 17 = .ok (.iconst 1, 1) := by decide +kernel
theorem dL_setWind_18 : decode cL_setWind 18 = .ok (.ireturn, 1) := by decide +kernel
theorem dL_setWind_19 : decode cL_setWind 19 = .ok (.iconst 0, 1) := by decide +kernel
theorem dL_setWind_20 : decode cL_setWind 20 = .ok (.ireturn, 1) := by decide +kernel
set_option maxRecDepth 20000 in
theorem ggL_setPeople_X9_setPeople : GoodIn wsL_setPeople wsX9_setPeople := goodIn_ca (goodIn_r _ [6, 7, 8, 9, 10, 11, 12, 13, 5, 14, 15, 16, 17, 18, 19, 20, 21, 22, 23, 24, 25, 26, 27, 28, 29, 30, 31, 32, 33, 34, 35, 36, 37] (by decide +kernel) (by decide +kernel)) (goodIn_sub (fun _ h => List.mem_cons_of_mem _ (List.mem_append_right _ h)) (by decide +kernel))
set_option maxRecDepth 20000 in
theorem gL_setPeople_X9_setPeople : GoodIn wsL_setPeople (wsV RL 22 RX9 yX9_setPeople wsX9_setPeople) := goodIn_app (goodIn_of _ (by decide +kernel)) ggL_setPeople_X9_setPeople
theorem dL_setPeople_0 : decode cL_setPeople 0 = .ok (.aload 4, 2) := by decide +kernel
theorem dL_setPeople_2 : decode cL_setPeople 2 = .ok (.iconst 0, 1) := by decide +kernel
theorem dL_setPeople_3 : decode cL_setPeople 3 = .ok (.aload_n 0, 1) := by decide +kernel
theorem dL_setPeople_4 : decode cL_setPeople 4 = .ok (.iload_n 1, 1) := by decide +kernel
theorem dL_setPeople_5 : decode cL_setPeople 5 = .ok (.iload_n 2, 1) := by decide +kernel
theorem dL_setPeople_6 : decode cL_setPeople 6 = .ok (.iload_n 3, 1) := by decide +kernel
theorem dL_setPeople_7 : decode cL_setPeople 7 = .ok (.invokevirtual 22, 3) := by decide +kernel
theorem dL_setPeople_10 : decode cL_setPeople 10 = .ok (.i2l, 1) := by decide +kernel
theorem dL_setPeople_11 : decode cL_setPeople 11 = .ok (.lastore, 1) := by decide +kernel
theorem dL_setPeople_12 : decode cL_setPeople 12 = .ok (.goto 7, 3) := by decide +kernel
theorem dL_setPeople_15 : decode cL_setPeople 15 = .ok (.astore 5, 2) := by decide +kernel
theorem dL_setPeople_17 : decode cL_setPeople 17 = .ok (.iconst 1, 1) := by decide +kernel
theorem dL_setPeople_18 : decode cL_setPeople 18 = .ok (.ireturn, 1) := by decide +kernel
theorem dL_setPeople_19 : decode cL_setPeople 19 = .ok (.iconst 0, 1) := by decide +kernel
theorem dL_setPeople_20 : decode cL_setPeople 20 = .ok (.ireturn, 1) := by decide +kernel
set_option maxRecDepth 20000 in
theorem ggL_setValue_X9_setValue : GoodIn wsL_setValue wsX9_setValue := goodIn_ca (goodIn_r _ [6, 7, 8, 9, 10, 11, 12, 13, 5, 14, 15, 16, 17, 18, 19, 20, 21, 22, 23, 24, 25, 26, 27, 28, 29, 30, 31, 32, 33, 34, 35, 36, 37] (by decide +kernel) (by decide +kernel)) (goodIn_sub (fun _ h => List.mem_cons_of_mem _ (List.mem_append_right _ h)) (by decide +kernel))
set_option maxRecDepth 20000 in
theorem gL_setValue_X9_setValue : GoodIn wsL_setValue (wsV RL 25 RX9 yX9_setValue wsX9_setValue) := goodIn_app (goodIn_of _ (by decide +kernel)) ggL_setValue_X9_setValue
theorem dL_setValue_0 : decode cL_setValue 0 = .ok (.aload 4, 2) := by decide +kernel
theorem dL_setValue_2 : decode cL_setValue 2 = .ok (.iconst 0, 1) := by decide +kernel
theorem dL_setValue_3 : decode cL_setValue 3 = .ok (.aload_n 0, 1) := by decide +kernel
theorem dL_setValue_4 : decode cL_setValue 4 = .ok (.iload_n 1, 1) := by decide +kernel
theorem dL_setValue_5 : decode cL_setValue 5 = .ok (.iload_n 2, 1) := by decide +kernel
theorem dL_setValue_6 : decode cL_setValue 6 = .ok (.iload_n 3, 1) := by decide +kernel
theorem dL_setValue_7 : decode cL_setValue 7 = .ok (.invokevirtual 25, 3) := by decide +kernel
theorem dL_setValue_10 : decode cL_setValue 10 = .ok (.i2l, 1) := by decide +kernel
theorem dL_setValue_11 : decode cL_setValue 11 = .ok (.lastore, 1) := by decide +kernel
theorem dL_setValue_12 : decode cL_setValue 12 = .ok (.goto 7, 3) := by decide +kernel
theorem dL_setValue_15 : decode cL_setValue 15 = .ok (.astore 5, 2) := by decide +kernel
theorem dL_setValue_17 : decode cL_setValue 17 = .ok (.iconst 1, 1) := by decide +kernel
theorem dL_setValue_18 : decode cL_setValue 18 = .ok (.ireturn, 1) := by decide +kernel
theorem dL_setValue_19 : decode cL_setValue 19 = .ok (.iconst 0, 1) := by decide +kernel
theorem dL_setValue_20 : decode cL_setValue 20 = .ok (.ireturn, 1) := by decide +kernel
set_option maxRecDepth 20000 in
theorem ggL_flight_X9_flight : GoodIn wsL_flight wsX9_flight := goodIn_ca (goodIn_r _ [6, 7, 8, 9, 10, 11, 12, 5, 13, 14, 15, 16, 17, 18, 19, 20, 21, 22, 23, 24, 25, 26, 27, 28, 29, 30, 31, 32, 33, 34, 35] (by decide +kernel) (by decide +kernel)) (goodIn_sub (fun _ h => List.mem_cons_of_mem _ (List.mem_append_right _ h)) (by decide +kernel))
set_option maxRecDepth 20000 in
theorem gL_flight_X9_flight : GoodIn wsL_flight (wsV RL 28 RX9 yX9_flight wsX9_flight) := goodIn_app (goodIn_of _ (by decide +kernel)) ggL_flight_X9_flight
theorem dL_flight_0 : decode cL_flight 0 = .ok (.aload_n 2, 1) := by decide +kernel
theorem dL_flight_1 : decode cL_flight 1 = .ok (.iconst 0, 1) := by decide +kernel
theorem dL_flight_2 : decode cL_flight 2 = .ok (.aload_n 0, 1) := by decide +kernel
theorem dL_flight_3 : decode cL_flight 3 = .ok (.iload_n 1, 1) := by decide +kernel
theorem dL_flight_4 : decode cL_flight 4 = .ok (.invokevirtual 28, 3) := by decide +kernel
theorem dL_flight_7 : decode cL_flight 7 = .ok (.i2l, 1) := by decide +kernel
theorem dL_flight_8 : decode cL_flight 8 = .ok (.lastore, 1) := by decide +kernel
theorem dL_flight_9 : decode cL_flight 9 = .ok (.goto 6, 3) := by decide +kernel
theorem dL_flight_12 : decode cL_flight 12 = .ok (.astore_n 3, 1) := by decide +kernel
theorem dL_flight_13 : decode cL_flight 13 = .ok (.iconst 1, 1) := by decide +kernel
theorem dL_flight_14 : decode cL_flight 14 = .ok (.ireturn, 1) := by decide +kernel
theorem dL_flight_15 : decode cL_flight 15 = .ok (.iconst 0, 1) := by decide +kernel
theorem dL_flight_16 : decode cL_flight 16 = .ok (.ireturn, 1) := by decide +kernel
set_option maxRecDepth 20000 in
theorem ggL_inLayer_X9_inLayer : GoodIn wsL_inLayer wsX9_inLayer := goodIn_ca (goodIn_r _ [6, 7, 8, 9, 10, 11, 12, 5, 13, 14, 15, 16, 17, 18, 19, 20, 21, 22, 23, 24, 25, 26, 27, 28, 29, 30, 31, 32, 33, 34, 35] (by decide +kernel) (by decide +kernel)) (goodIn_sub (fun _ h => List.mem_cons_of_mem _ (List.mem_append_right _ h)) (by decide +kernel))
set_option maxRecDepth 20000 in
theorem gL_inLayer_X9_inLayer : GoodIn wsL_inLayer (wsV RL 32 RX9 yX9_inLayer wsX9_inLayer) := goodIn_app (goodIn_of _ (by decide +kernel)) ggL_inLayer_X9_inLayer
theorem dL_inLayer_0 : decode cL_inLayer 0 = .ok (.aload_n 3, 1) := by decide +kernel
theorem dL_inLayer_1 : decode cL_inLayer 1 = .ok (.iconst 0, 1) := by decide +kernel
theorem dL_inLayer_2 : decode cL_inLayer 2 = .ok (.aload_n 0, 1) := by decide +kernel
theorem dL_inLayer_3 : decode cL_inLayer 3 = .ok (.iload_n 1, 1) := by decide +kernel
theorem dL_inLayer_4 : decode cL_inLayer 4 = .ok (.iload_n 2, 1) := by decide +kernel
theorem dL_inLayer_5 : decode cL_inLayer 5 = .ok (.invokevirtual 32, 3) := by decide +kernel
theorem dL_inLayer_8 : decode cL_inLayer 8 = .ok (.i2l, 1) := by decide +kernel
theorem dL_inLayer_9 : decode cL_inLayer 9 = .ok (.lastore, 1) := by decide +kernel
theorem dL_inLayer_10 : decode cL_inLayer 10 = .ok (.goto 7, 3) := by decide +kernel
theorem dL_inLayer_13 : decode cL_inLayer 13 = .ok (.astore 4, 2) := by decide +kernel
theorem dL_inLayer_15 : decode cL_inLayer 15 = .ok (.iconst 1, 1) := by decide +kernel
theorem dL_inLayer_16 : decode cL_inLayer 16 = .ok (.ireturn, 1) := by decide +kernel
theorem dL_inLayer_17 : decode cL_inLayer 17 = .ok (.iconst 0, 1) := by decide +kernel
theorem dL_inLayer_18 : decode cL_inLayer 18 = .ok (.ireturn, 1) := by decide +kernel
set_option maxRecDepth 20000 in
theorem ggL_cue_X9_cue : GoodIn wsL_cue wsX9_cue := goodIn_ca (goodIn_ca (goodIn_r _ [7, 8, 9, 10, 11, 12, 13, 14, 15, 16, 17, 18, 19, 20, 21, 22, 6, 23, 24, 25, 26, 27, 28, 29, 30, 31, 32, 33, 34, 35, 36, 37, 38, 39, 40, 41, 42, 43, 44, 45, 46, 47, 48, 49, 50, 51, 52, 53, 54, 55, 56, 57, 58, 59, 60, 61, 62] (by decide +kernel) (by decide +kernel)) (goodIn_sub (fun _ h => List.mem_cons_of_mem _ (List.mem_append_left _ (List.mem_append_right _ h))) (by decide +kernel))) (goodIn_sub (fun _ h => List.mem_cons_of_mem _ (List.mem_append_right _ h)) (by decide +kernel))
set_option maxRecDepth 20000 in
theorem gL_cue_X9_cue : GoodIn wsL_cue (wsV RL 36 RX9 yX9_cue wsX9_cue) := goodIn_app (goodIn_of _ (by decide +kernel)) ggL_cue_X9_cue
theorem dL_cue_0 : decode cL_cue 0 = .ok (.aload 4, 2) := by decide +kernel
theorem dL_cue_2 : decode cL_cue 2 = .ok (.iconst 0, 1) := by decide +kernel
theorem dL_cue_3 : decode cL_cue 3 = .ok (.aload_n 0, 1) := by decide +kernel
theorem dL_cue_4 : decode cL_cue 4 = .ok (.iload_n 1, 1) := by decide +kernel
theorem dL_cue_5 : decode cL_cue 5 = .ok (.iload_n 2, 1) := by decide +kernel
theorem dL_cue_6 : decode cL_cue 6 = .ok (.iload_n 3, 1) := by decide +kernel
theorem dL_cue_7 : decode cL_cue 7 = .ok (.invokevirtual 36, 3) := by decide +kernel
theorem dL_cue_10 : decode cL_cue 10 = .ok (.i2l, 1) := by decide +kernel
theorem dL_cue_11 : decode cL_cue 11 = .ok (.lastore, 1) := by decide +kernel
theorem dL_cue_12 : decode cL_cue 12 = .ok (.goto 11, 3) := by decide +kernel
theorem dL_cue_15 : decode cL_cue 15 = .ok (.astore 5, 2) := by decide +kernel
theorem dL_cue_17 : decode cL_cue 17 = .ok (.iconst 1, 1) := by decide +kernel
theorem dL_cue_18 : decode cL_cue 18 = .ok (.ireturn, 1) := by decide +kernel
theorem dL_cue_19 : decode cL_cue 19 = .ok (.astore 5, 2) := by decide +kernel
theorem dL_cue_21 : decode cL_cue 21 = .ok (.iconst 2, 1) := by decide +kernel
theorem dL_cue_22 : decode cL_cue 22 = .ok (.ireturn, 1) := by decide +kernel
theorem dL_cue_23 : decode cL_cue 23 = .ok (.iconst 0, 1) := by decide +kernel
theorem dL_cue_24 : decode cL_cue 24 = .ok (.ireturn, 1) := by decide +kernel
set_option maxRecDepth 20000 in
theorem ggL_cut_X9_cut : GoodIn wsL_cut wsX9_cut := goodIn_ca (goodIn_r _ [6, 7, 8, 9, 10, 11, 12, 13, 5, 14, 15, 16, 17, 18, 19, 20, 21, 22, 23, 24, 25, 26, 27, 28, 29, 30, 31, 32, 33, 34, 35, 36, 37, 38, 39, 40, 41, 42, 43] (by decide +kernel) (by decide +kernel)) (goodIn_sub (fun _ h => List.mem_cons_of_mem _ (List.mem_append_right _ h)) (by decide +kernel))
set_option maxRecDepth 20000 in
theorem gL_cut_X9_cut : GoodIn wsL_cut (wsV RL 41 RX9 yX9_cut wsX9_cut) := goodIn_app (goodIn_of _ (by decide +kernel)) ggL_cut_X9_cut
theorem dL_cut_0 : decode cL_cut 0 = .ok (.aload_n 2, 1) := by decide +kernel
theorem dL_cut_1 : decode cL_cut 1 = .ok (.iconst 0, 1) := by decide +kernel
theorem dL_cut_2 : decode cL_cut 2 = .ok (.aload_n 0, 1) := by decide +kernel
theorem dL_cut_3 : decode cL_cut 3 = .ok (.iload_n 1, 1) := by decide +kernel
theorem dL_cut_4 : decode cL_cut 4 = .ok (.invokevirtual 41, 3) := by decide +kernel
theorem dL_cut_7 : decode cL_cut 7 = .ok (.i2l, 1) := by decide +kernel
theorem dL_cut_8 : decode cL_cut 8 = .ok (.lastore, 1) := by decide +kernel
theorem dL_cut_9 : decode cL_cut 9 = .ok (.goto 6, 3) := by decide +kernel
theorem dL_cut_12 : decode cL_cut 12 = .ok (.astore_n 3, 1) := by decide +kernel
theorem dL_cut_13 : decode cL_cut 13 = .ok (.iconst 1, 1) := by decide +kernel
theorem dL_cut_14 : decode cL_cut 14 = .ok (.ireturn, 1) := by decide +kernel
theorem dL_cut_15 : decode cL_cut 15 = .ok (.iconst 0, 1) := by decide +kernel
theorem dL_cut_16 : decode cL_cut 16 = .ok (.ireturn, 1) := by decide +kernel
set_option maxRecDepth 20000 in
theorem ggL_setTempo_X9_setTempo : GoodIn wsL_setTempo wsX9_setTempo := goodIn_ca (goodIn_r _ [6, 7, 8, 9, 10, 11, 12, 5, 13, 14, 15, 16, 17, 18, 19, 20, 21, 22, 23, 24, 25, 26, 27, 28] (by decide +kernel) (by decide +kernel)) (goodIn_sub (fun _ h => List.mem_cons_of_mem _ (List.mem_append_right _ h)) (by decide +kernel))
set_option maxRecDepth 20000 in
theorem gL_setTempo_X9_setTempo : GoodIn wsL_setTempo (wsV RL 46 RX9 yX9_setTempo wsX9_setTempo) := goodIn_app (goodIn_of _ (by decide +kernel)) ggL_setTempo_X9_setTempo
theorem dL_setTempo_0 : decode cL_setTempo 0 = .ok (.aload_n 2, 1) := by decide +kernel
theorem dL_setTempo_1 : decode cL_setTempo 1 = .ok (.iconst 0, 1) := by decide +kernel
theorem dL_setTempo_2 : decode cL_setTempo 2 = .ok (.aload_n 0, 1) := by decide +kernel
theorem dL_setTempo_3 : decode cL_setTempo 3 = .ok (.iload_n 1, 1) := by decide +kernel
theorem dL_setTempo_4 : decode cL_setTempo 4 = .ok (.invokevirtual 46, 3) := by decide +kernel
theorem dL_setTempo_7 : decode cL_setTempo 7 = .ok (.i2l, 1) := by decide +kernel
theorem dL_setTempo_8 : decode cL_setTempo 8 = .ok (.lastore, 1) := by decide +kernel
theorem dL_setTempo_9 : decode cL_setTempo 9 = .ok (.goto 6, 3) := by decide +kernel
theorem dL_setTempo_12 : decode cL_setTempo 12 = .ok (.astore_n 3, 1) := by decide +kernel
theorem dL_setTempo_13 : decode cL_setTempo 13 = .ok (.iconst 1, 1) := by decide +kernel
theorem dL_setTempo_14 : decode cL_setTempo 14 = .ok (.ireturn, 1) := by decide +kernel
theorem dL_setTempo_15 : decode cL_setTempo 15 = .ok (.iconst 0, 1) := by decide +kernel
theorem dL_setTempo_16 : decode cL_setTempo 16 = .ok (.ireturn, 1) := by decide +kernel
set_option maxRecDepth 20000 in
theorem ggL_becomes_X9_becomes : GoodIn wsL_becomes wsX9_becomes := goodIn_ca (goodIn_r _ [6, 7, 8, 9, 10, 5, 11, 12, 13, 14, 15, 16, 17, 18, 19, 20, 21, 22, 23, 24, 25, 26, 27, 28, 29, 30, 31, 32, 33, 34, 35, 36, 37, 38, 39, 40, 41, 42, 43, 44, 45, 46, 47, 48, 49, 50, 51, 52, 53, 54, 55, 56, 57, 58, 59, 60, 61, 62, 63, 64, 65, 66, 67, 68, 69, 70, 71, 72, 73, 74, 75, 76, 77, 78, 79, 80, 81, 82, 83, 84, 85, 86, 87, 88, 89, 90, 91, 92, 93, 94, 95, 96, 97, 98, 99, 100, 101, 102, 103, 104, 105, 106, 107, 108, 109, 110, 111, 112, 113, 114, 115, 116, 117, 118, 119, 120, 121, 122, 123, 124, 125, 126, 127, 128, 129, 130, 131, 132, 133, 134, 135, 136, 137, 138, 139, 140, 141, 142, 143, 144, 145, 146, 147, 148, 149, 150, 151, 152, 153, 154, 155, 156, 157, 158, 159, 160, 161, 162, 163, 164, 165, 166, 167, 168, 169, 170, 171, 172, 173, 174, 175, 176, 177, 178, 179, 180, 181, 182, 183, 184, 185, 186, 187, 188] (by decide +kernel) (by decide +kernel)) (goodIn_sub (fun _ h => List.mem_cons_of_mem _ (List.mem_append_right _ h)) (by decide +kernel))
set_option maxRecDepth 20000 in
theorem gL_becomes_X9_becomes : GoodIn wsL_becomes (wsV RL 49 RX9 yX9_becomes wsX9_becomes) := goodIn_app (goodIn_of _ (by decide +kernel)) ggL_becomes_X9_becomes
theorem dL_becomes_0 : decode cL_becomes 0 = .ok (.aload_n 2, 1) := by decide +kernel
theorem dL_becomes_1 : decode cL_becomes 1 = .ok (.iconst 0, 1) := by decide +kernel
theorem dL_becomes_2 : decode cL_becomes 2 = .ok (.aload_n 0, 1) := by decide +kernel
theorem dL_becomes_3 : decode cL_becomes 3 = .ok (.iload_n 1, 1) := by decide +kernel
theorem dL_becomes_4 : decode cL_becomes 4 = .ok (.invokevirtual 49, 3) := by decide +kernel
theorem dL_becomes_7 : decode cL_becomes 7 = .ok (.i2l, 1) := by decide +kernel
theorem dL_becomes_8 : decode cL_becomes 8 = .ok (.lastore, 1) := by decide +kernel
theorem dL_becomes_9 : decode cL_becomes 9 = .ok (.goto 6, 3) := by decide +kernel
theorem dL_becomes_12 : decode cL_becomes 12 = .ok (.astore_n 3, 1) := by decide +kernel
theorem dL_becomes_13 : decode cL_becomes 13 = .ok (.iconst 1, 1) := by decide +kernel
theorem dL_becomes_14 : decode cL_becomes 14 = .ok (.ireturn, 1) := by decide +kernel
theorem dL_becomes_15 : decode cL_becomes 15 = .ok (.iconst 0, 1) := by decide +kernel
theorem dL_becomes_16 : decode cL_becomes 16 = .ok (.ireturn, 1) := by decide +kernel
set_option maxRecDepth 20000 in
theorem ggL_bursts_X9_bursts : GoodIn wsL_bursts wsX9_bursts := goodIn_ca (goodIn_r _ [6, 7, 8, 9, 10, 5, 11, 12, 13, 14, 15, 16, 17, 18, 19, 20, 21, 22, 23, 24, 25, 26, 27, 28, 29, 30, 31, 32, 33, 34, 35, 36, 37, 38, 39, 40, 41, 42, 43, 44, 45, 46, 47, 48, 49, 50, 51, 52, 53, 54, 55, 56, 57, 58, 59, 60, 61, 62, 63, 64, 65, 66, 67, 68, 69, 70, 71, 72, 73, 74, 75, 76, 77, 78, 79, 80, 81, 82, 83, 84, 85, 86, 87, 88, 89, 90, 91, 92, 93, 94, 95, 96, 97, 98, 99, 100, 101, 102, 103, 104, 105, 106, 107, 108, 109, 110, 111, 112, 113, 114, 115, 116, 117, 118, 119, 120, 121, 122, 123, 124, 125, 126, 127, 128, 129, 130, 131, 132, 133, 134, 135, 136, 137, 138, 139, 140, 141, 142, 143, 144, 145, 146, 147, 148, 149, 150, 151, 152, 153, 154, 155, 156, 157, 158, 159, 160, 161, 162, 163, 164, 165, 166, 167, 168, 169, 170, 171, 172, 173, 174, 175, 176, 177, 178, 179, 180, 181, 182, 183, 184, 185, 186, 187, 188] (by decide +kernel) (by decide +kernel)) (goodIn_sub (fun _ h => List.mem_cons_of_mem _ (List.mem_append_right _ h)) (by decide +kernel))
set_option maxRecDepth 20000 in
theorem gL_bursts_X9_bursts : GoodIn wsL_bursts (wsV RL 52 RX9 yX9_bursts wsX9_bursts) := goodIn_app (goodIn_of _ (by decide +kernel)) ggL_bursts_X9_bursts
theorem dL_bursts_0 : decode cL_bursts 0 = .ok (.aload_n 2, 1) := by decide +kernel
theorem dL_bursts_1 : decode cL_bursts 1 = .ok (.iconst 0, 1) := by decide +kernel
theorem dL_bursts_2 : decode cL_bursts 2 = .ok (.aload_n 0, 1) := by decide +kernel
theorem dL_bursts_3 : decode cL_bursts 3 = .ok (.iload_n 1, 1) := by decide +kernel
theorem dL_bursts_4 : decode cL_bursts 4 = .ok (.invokevirtual 52, 3) := by decide +kernel
theorem dL_bursts_7 : decode cL_bursts 7 = .ok (.i2l, 1) := by decide +kernel
theorem dL_bursts_8 : decode cL_bursts 8 = .ok (.lastore, 1) := by decide +kernel
theorem dL_bursts_9 : decode cL_bursts 9 = .ok (.goto 6, 3) := by decide +kernel
theorem dL_bursts_12 : decode cL_bursts 12 = .ok (.astore_n 3, 1) := by decide +kernel
theorem dL_bursts_13 : decode cL_bursts 13 = .ok (.iconst 1, 1) := by decide +kernel
theorem dL_bursts_14 : decode cL_bursts 14 = .ok (.ireturn, 1) := by decide +kernel
theorem dL_bursts_15 : decode cL_bursts 15 = .ok (.iconst 0, 1) := by decide +kernel
theorem dL_bursts_16 : decode cL_bursts 16 = .ok (.ireturn, 1) := by decide +kernel
set_option maxRecDepth 20000 in
theorem ggL_fires_X9_fires : GoodIn wsL_fires wsX9_fires := goodIn_ca (goodIn_r _ [6, 7, 8, 9, 10, 5, 11, 12, 13, 14, 15, 16, 17, 18, 19, 20, 21, 22, 23, 24, 25, 26, 27, 28, 29, 30, 31, 32, 33, 34, 35, 36, 37, 38, 39, 40, 41, 42, 43, 44, 45, 46, 47, 48, 49, 50, 51, 52, 53, 54, 55, 56, 57, 58, 59, 60, 61, 62, 63, 64, 65, 66, 67, 68, 69, 70, 71, 72, 73, 74, 75, 76, 77, 78, 79, 80, 81, 82, 83, 84, 85, 86, 87, 88, 89, 90, 91, 92, 93, 94, 95, 96, 97, 98, 99, 100, 101, 102, 103, 104, 105, 106, 107, 108, 109, 110, 111, 112, 113, 114, 115, 116, 117, 118, 119, 120, 121, 122, 123, 124, 125, 126, 127, 128, 129, 130, 131, 132, 133, 134, 135, 136, 137, 138, 139, 140, 141, 142, 143, 144, 145, 146, 147, 148, 149, 150, 151, 152, 153, 154, 155, 156, 157, 158, 159, 160, 161, 162, 163, 164, 165, 166, 167, 168, 169, 170, 171, 172, 173, 174, 175, 176, 177, 178, 179, 180, 181, 182, 183, 184, 185, 186, 187, 188] (by decide +kernel) (by decide +kernel)) (goodIn_sub (fun _ h => List.mem_cons_of_mem _ (List.mem_append_right _ h)) (by decide +kernel))
set_option maxRecDepth 20000 in
theorem gL_fires_X9_fires : GoodIn wsL_fires (wsV RL 55 RX9 yX9_fires wsX9_fires) := goodIn_app (goodIn_of _ (by decide +kernel)) ggL_fires_X9_fires
theorem dL_fires_0 : decode cL_fires 0 = .ok (.aload_n 2, 1) := by decide +kernel
theorem dL_fires_1 : decode cL_fires 1 = .ok (.iconst 0, 1) := by decide +kernel
theorem dL_fires_2 : decode cL_fires 2 = .ok (.aload_n 0, 1) := by decide +kernel
theorem dL_fires_3 : decode cL_fires 3 = .ok (.iload_n 1, 1) := by decide +kernel
theorem dL_fires_4 : decode cL_fires 4 = .ok (.invokevirtual 55, 3) := by decide +kernel
theorem dL_fires_7 : decode cL_fires 7 = .ok (.i2l, 1) := by decide +kernel
theorem dL_fires_8 : decode cL_fires 8 = .ok (.lastore, 1) := by decide +kernel
theorem dL_fires_9 : decode cL_fires 9 = .ok (.goto 6, 3) := by decide +kernel
theorem dL_fires_12 : decode cL_fires 12 = .ok (.astore_n 3, 1) := by decide +kernel
theorem dL_fires_13 : decode cL_fires 13 = .ok (.iconst 1, 1) := by decide +kernel
theorem dL_fires_14 : decode cL_fires 14 = .ok (.ireturn, 1) := by decide +kernel
theorem dL_fires_15 : decode cL_fires 15 = .ok (.iconst 0, 1) := by decide +kernel
theorem dL_fires_16 : decode cL_fires 16 = .ok (.ireturn, 1) := by decide +kernel
set_option maxRecDepth 20000 in
theorem ggL_falls_X9_falls : GoodIn wsL_falls wsX9_falls := goodIn_ca (goodIn_ca (goodIn_r _ [7, 8, 9, 10, 11, 12, 6, 13, 14, 15, 16, 17, 18, 19, 20, 21, 22, 23, 24, 25, 26, 27, 28, 29, 30, 31, 32, 33, 34, 35, 36, 37, 38, 39, 40, 41, 42, 43, 44, 45, 46, 47, 48, 49, 50, 51, 52, 53, 54, 55, 56, 57, 58, 59, 60, 61, 62, 63, 64, 65, 66, 67, 68, 69, 70, 71, 72, 73, 74, 75, 76, 77, 78, 79, 80, 81, 82, 83, 84, 85, 86, 87, 88, 89, 90, 91] (by decide +kernel) (by decide +kernel)) (goodIn_sub (fun _ h => List.mem_cons_of_mem _ (List.mem_append_left _ (List.mem_append_right _ h))) (by decide +kernel))) (goodIn_sub (fun _ h => List.mem_cons_of_mem _ (List.mem_append_right _ h)) (by decide +kernel))
set_option maxRecDepth 20000 in
theorem gL_falls_X9_falls : GoodIn wsL_falls (wsV RL 58 RX9 yX9_falls wsX9_falls) := goodIn_app (goodIn_of _ (by decide +kernel)) ggL_falls_X9_falls
theorem dL_falls_0 : decode cL_falls 0 = .ok (.aload_n 3, 1) := by decide +kernel
theorem dL_falls_1 : decode cL_falls 1 = .ok (.iconst 0, 1) := by decide +kernel
theorem dL_falls_2 : decode cL_falls 2 = .ok (.aload_n 0, 1) := by decide +kernel
theorem dL_falls_3 : decode cL_falls 3 = .ok (.iload_n 1, 1) := by decide +kernel
theorem dL_falls_4 : decode cL_falls 4 = .ok (.iload_n 2, 1) := by decide +kernel
theorem dL_falls_5 : decode cL_falls 5 = .ok (.invokevirtual 58, 3) := by decide +kernel
theorem dL_falls_8 : decode cL_falls 8 = .ok (.i2l, 1) := by decide +kernel
theorem dL_falls_9 : decode cL_falls 9 = .ok (.lastore, 1) := by decide +kernel
theorem dL_falls_10 : decode cL_falls 10 = .ok (.goto 11, 3) := by decide +kernel
theorem dL_falls_13 : decode cL_falls 13 = .ok (.astore 4, 2) := by decide +kernel
theorem dL_falls_15 : decode cL_falls 15 = .ok (.iconst 1, 1) := by decide +kernel
theorem dL_falls_16 : decode cL_falls 16 = .ok (.ireturn, 1) := by decide +kernel
theorem dL_falls_17 : decode cL_falls 17 = .ok (.astore 4, 2) := by decide +kernel
theorem dL_falls_19 : decode cL_falls 19 = .ok (.iconst 2, 1) := by decide +kernel
theorem dL_falls_20 : decode cL_falls 20 = .ok (.ireturn, 1) := by decide +kernel
theorem dL_falls_21 : decode cL_falls 21 = .ok (.iconst 0, 1) := by decide +kernel
theorem dL_falls_22 : decode cL_falls 22 = .ok (.ireturn, 1) := by decide +kernel
set_option maxRecDepth 20000 in
theorem ggL_fallsBySteps_X9_fallsBySteps : GoodIn wsL_fallsBySteps wsX9_fallsBySteps := goodIn_ca (goodIn_ca (goodIn_r _ [7, 8, 9, 10, 11, 12, 13, 14, 15, 16, 17, 18, 19, 20, 21, 6, 22, 23, 24, 25, 26, 27, 28, 29, 30, 31, 32, 33, 34, 35, 36, 37, 38, 39, 40, 41, 42, 43, 44, 45, 46, 47, 48, 49, 50, 51, 52, 53, 54, 55, 56, 57, 58, 59, 60, 61, 62, 63, 64, 65, 66, 67, 68, 69, 70, 71, 72, 73, 74, 75, 76, 77, 78, 79, 80, 81, 82, 83, 84, 85, 86, 87, 88, 89, 90, 91, 92, 93, 94, 95, 96, 97, 98, 99, 100, 101, 102, 103, 104, 105, 106, 107, 108, 109, 110, 111, 112, 113, 114, 115, 116, 117, 118, 119, 120, 121, 122, 123, 124, 125, 126, 127, 128, 129, 130] (by decide +kernel) (by decide +kernel)) (goodIn_sub (fun _ h => List.mem_cons_of_mem _ (List.mem_append_left _ (List.mem_append_right _ h))) (by decide +kernel))) (goodIn_sub (fun _ h => List.mem_cons_of_mem _ (List.mem_append_right _ h)) (by decide +kernel))
set_option maxRecDepth 20000 in
theorem gL_fallsBySteps_X9_fallsBySteps : GoodIn wsL_fallsBySteps (wsV RL 61 RX9 yX9_fallsBySteps wsX9_fallsBySteps) := goodIn_app (goodIn_of _ (by decide +kernel)) ggL_fallsBySteps_X9_fallsBySteps
theorem dL_fallsBySteps_0 : decode cL_fallsBySteps 0 = .ok (.aload_n 3, 1) := by decide +kernel
theorem dL_fallsBySteps_1 : decode cL_fallsBySteps 1 = .ok (.iconst 0, 1) := by decide +kernel
theorem dL_fallsBySteps_2 : decode cL_fallsBySteps 2 = .ok (.aload_n 0, 1) := by decide +kernel
theorem dL_fallsBySteps_3 : decode cL_fallsBySteps 3 = .ok (.iload_n 1, 1) := by decide +kernel
theorem dL_fallsBySteps_4 : decode cL_fallsBySteps 4 = .ok (.iload_n 2, 1) := by decide +kernel
theorem dL_fallsBySteps_5 : decode cL_fallsBySteps 5 = .ok (.invokevirtual 61, 3) := by decide +kernel
theorem dL_fallsBySteps_8 : decode cL_fallsBySteps 8 = .ok (.i2l, 1) := by decide +kernel
theorem dL_fallsBySteps_9 : decode cL_fallsBySteps 9 = .ok (.lastore, 1) := by decide +kernel
theorem dL_fallsBySteps_10 : decode cL_fallsBySteps 10 = .ok (.goto 11, 3) := by decide +kernel
theorem dL_fallsBySteps_13 : decode cL_fallsBySteps 13 = .ok (.astore 4, 2) := by decide +kernel
theorem dL_fallsBySteps_15 : decode cL_fallsBySteps 15 = .ok (.iconst 1, 1) := by decide +kernel
theorem dL_fallsBySteps_16 : decode cL_fallsBySteps 16 = .ok (.ireturn, 1) := by decide +kernel
theorem dL_fallsBySteps_17 : decode cL_fallsBySteps 17 = .ok (.astore 4, 2) := by decide +kernel
theorem dL_fallsBySteps_19 : decode cL_fallsBySteps 19 = .ok (.iconst 2, 1) := by decide +kernel
theorem dL_fallsBySteps_20 : decode cL_fallsBySteps 20 = .ok (.ireturn, 1) := by decide +kernel
theorem dL_fallsBySteps_21 : decode cL_fallsBySteps 21 = .ok (.iconst 0, 1) := by decide +kernel
theorem dL_fallsBySteps_22 : decode cL_fallsBySteps 22 = .ok (.ireturn, 1) := by decide +kernel
set_option maxRecDepth 20000 in
theorem ggL_burstAt_X9_burstAt : GoodIn wsL_burstAt wsX9_burstAt := goodIn_ca (goodIn_ca (goodIn_r _ [7, 8, 9, 10, 11, 12, 13, 14, 15, 16, 17, 18, 19, 20, 21, 22, 6, 23, 24, 25, 26, 27, 28, 29, 30, 31, 32, 33, 34, 35, 36, 37, 38, 39, 40, 41, 42, 43, 44, 45, 46, 47, 48, 49, 50, 51, 52, 53, 54, 55, 56, 57, 58, 59, 60, 61, 62, 63, 64, 65, 66, 67, 68, 69, 70, 71, 72, 73, 74, 75, 76, 77, 78, 79, 80, 81, 82, 83, 84, 85, 86, 87, 88, 89, 90, 91, 92, 93, 94, 95, 96, 97, 98, 99, 100, 101, 102, 103, 104, 105, 106, 107, 108, 109, 110, 111, 112, 113, 114, 115, 116, 117, 118, 119, 120, 121, 122, 123, 124] (by decide +kernel) (by decide +kernel)) (goodIn_sub (fun _ h => List.mem_cons_of_mem _ (List.mem_append_left _ (List.mem_append_right _ h))) (by decide +kernel))) (goodIn_sub (fun _ h => List.mem_cons_of_mem _ (List.mem_append_right _ h)) (by decide +kernel))
set_option maxRecDepth 20000 in
theorem gL_burstAt_X9_burstAt : GoodIn wsL_burstAt (wsV RL 64 RX9 yX9_burstAt wsX9_burstAt) := goodIn_app (goodIn_of _ (by decide +kernel)) ggL_burstAt_X9_burstAt
theorem dL_burstAt_0 : decode cL_burstAt 0 = .ok (.aload_n 3, 1) := by decide +kernel
theorem dL_burstAt_1 : decode cL_burstAt 1 = .ok (.iconst 0, 1) := by decide +kernel
theorem dL_burstAt_2 : decode cL_burstAt 2 = .ok (.aload_n 0, 1) := by decide +kernel
theorem dL_burstAt_3 : decode cL_burstAt 3 = .ok (.iload_n 1, 1) := by decide +kernel
theorem dL_burstAt_4 : decode cL_burstAt 4 = .ok (.iload_n 2, 1) := by decide +kernel
theorem dL_burstAt_5 : decode cL_burstAt 5 = .ok (.invokevirtual 64, 3) := by decide +kernel
theorem dL_burstAt_8 : decode cL_burstAt 8 = .ok (.i2l, 1) := by decide +kernel
theorem dL_burstAt_9 : decode cL_burstAt 9 = .ok (.lastore, 1) := by decide +kernel
theorem dL_burstAt_10 : decode cL_burstAt 10 = .ok (.goto 11, 3) := by decide +kernel
theorem dL_burstAt_13 : decode cL_burstAt 13 = .ok (.astore 4, 2) := by decide +kernel
theorem dL_burstAt_15 : decode cL_burstAt 15 = .ok (.iconst 1, 1) := by decide +kernel
theorem dL_burstAt_16 : decode cL_burstAt 16 = .ok (.ireturn, 1) := by decide +kernel
theorem dL_burstAt_17 : decode cL_burstAt 17 = .ok (.astore 4, 2) := by decide +kernel
theorem dL_burstAt_19 : decode cL_burstAt 19 = .ok (.iconst 2, 1) := by decide +kernel
theorem dL_burstAt_20 : decode cL_burstAt 20 = .ok (.ireturn, 1) := by decide +kernel
theorem dL_burstAt_21 : decode cL_burstAt 21 = .ok (.iconst 0, 1) := by decide +kernel
theorem dL_burstAt_22 : decode cL_burstAt 22 = .ok (.ireturn, 1) := by decide +kernel
set_option maxRecDepth 20000 in
theorem ggL_danger_X9_danger : GoodIn wsL_danger wsX9_danger := goodIn_ca (goodIn_r _ [6, 7, 8, 9, 10, 5, 11, 12, 13, 14, 15, 16, 17, 18, 19, 20, 21, 22, 23, 24, 25, 26, 27, 28, 29, 30, 31, 32, 33, 34, 35, 36, 37, 38, 39, 40, 41, 42, 43, 44, 45, 46, 47, 48, 49, 50, 51, 52, 53, 54, 55, 56, 57, 58, 59, 60, 61, 62, 63, 64, 65, 66, 67, 68, 69, 70, 71, 72, 73, 74, 75, 76, 77, 78, 79, 80, 81, 82, 83, 84, 85, 86, 87, 88, 89, 90, 91, 92, 93, 94, 95, 96, 97, 98, 99, 100, 101, 102, 103, 104, 105, 106, 107, 108, 109, 110, 111, 112, 113, 114, 115, 116, 117, 118, 119, 120, 121, 122, 123, 124, 125, 126, 127, 128, 129, 130, 131, 132, 133, 134, 135, 136, 137, 138, 139, 140, 141, 142, 143, 144, 145, 146, 147, 148, 149, 150, 151, 152, 153, 154, 155, 156, 157, 158, 159, 160, 161, 162, 163, 164, 165, 166, 167, 168, 169, 170, 171, 172, 173, 174, 175, 176, 177, 178, 179, 180, 181, 182, 183, 184, 185, 186, 187, 188] (by decide +kernel) (by decide +kernel)) (goodIn_sub (fun _ h => List.mem_cons_of_mem _ (List.mem_append_right _ h)) (by decide +kernel))
set_option maxRecDepth 20000 in
theorem gL_danger_X9_danger : GoodIn wsL_danger (wsV RL 67 RX9 yX9_danger wsX9_danger) := goodIn_app (goodIn_of _ (by decide +kernel)) ggL_danger_X9_danger
theorem dL_danger_0 : decode cL_danger 0 = .ok (.aload_n 2, 1) := by decide +kernel
theorem dL_danger_1 : decode cL_danger 1 = .ok (.iconst 0, 1) := by decide +kernel
theorem dL_danger_2 : decode cL_danger 2 = .ok (.aload_n 0, 1) := by decide +kernel
theorem dL_danger_3 : decode cL_danger 3 = .ok (.iload_n 1, 1) := by decide +kernel
theorem dL_danger_4 : decode cL_danger 4 = .ok (.invokevirtual 67, 3) := by decide +kernel
theorem dL_danger_7 : decode cL_danger 7 = .ok (.lastore, 1) := by decide +kernel
theorem dL_danger_8 : decode cL_danger 8 = .ok (.goto 6, 3) := by decide +kernel
theorem dL_danger_11 : decode cL_danger 11 = .ok (.astore_n 3, 1) := by decide +kernel
theorem dL_danger_12 : decode cL_danger 12 = .ok (.iconst 1, 1) := by decide +kernel
theorem dL_danger_13 : decode cL_danger 13 = .ok (.ireturn, 1) := by decide +kernel
theorem dL_danger_14 : decode cL_danger 14 = .ok (.iconst 0, 1) := by decide +kernel
theorem dL_danger_15 : decode cL_danger 15 = .ok (.ireturn, 1) := by decide +kernel
set_option maxRecDepth 20000 in
theorem ggL_firing_X9_firing : GoodIn wsL_firing wsX9_firing := goodIn_ca (goodIn_r _ [6, 7, 8, 9, 10, 11, 12, 13, 14, 5, 15, 16, 17, 18, 19, 20, 21, 22, 23, 24, 25, 26, 27, 28, 29, 30, 31, 32, 33, 34, 35, 36, 37, 38, 39, 40, 41, 42, 43, 44, 45, 46, 47, 48, 49, 50, 51, 52, 53, 54, 55, 56, 57, 58, 59, 60, 61, 62, 63, 64, 65, 66, 67, 68, 69, 70, 71, 72, 73, 74, 75, 76, 77, 78, 79, 80, 81, 82, 83, 84, 85, 86, 87, 88, 89, 90, 91, 92, 93, 94, 95, 96, 97, 98, 99, 100, 101, 102, 103, 104, 105, 106, 107, 108, 109, 110, 111, 112, 113, 114, 115, 116, 117, 118, 119, 120, 121, 122, 123, 124, 125, 126, 127, 128, 129, 130, 131, 132, 133, 134, 135, 136, 137, 138, 139, 140, 141, 142, 143, 144, 145, 146, 147, 148, 149, 150, 151, 152, 153, 154, 155, 156, 157, 158, 159, 160, 161, 162, 163, 164, 165, 166, 167, 168, 169, 170, 171, 172, 173, 174, 175, 176, 177] (by decide +kernel) (by decide +kernel)) (goodIn_sub (fun _ h => List.mem_cons_of_mem _ (List.mem_append_right _ h)) (by decide +kernel))
set_option maxRecDepth 20000 in
theorem gL_firing_X9_firing : GoodIn wsL_firing (wsV RL 71 RX9 yX9_firing wsX9_firing) := goodIn_app (goodIn_of _ (by decide +kernel)) ggL_firing_X9_firing
theorem dL_firing_0 : decode cL_firing 0 = .ok (.aload_n 2, 1) := by decide +kernel
theorem dL_firing_1 : decode cL_firing 1 = .ok (.iconst 0, 1) := by decide +kernel
theorem dL_firing_2 : decode cL_firing 2 = .ok (.aload_n 0, 1) := by decide +kernel
theorem dL_firing_3 : decode cL_firing 3 = .ok (.iload_n 1, 1) := by decide +kernel
theorem dL_firing_4 : decode cL_firing 4 = .ok (.invokevirtual 71, 3) := by decide +kernel
theorem dL_firing_7 : decode cL_firing 7 = .ok (.i2l, 1) := by decide +kernel
theorem dL_firing_8 : decode cL_firing 8 = .ok (.lastore, 1) := by decide +kernel
theorem dL_firing_9 : decode cL_firing 9 = .ok (.goto 6, 3) := by decide +kernel
theorem dL_firing_12 : decode cL_firing 12 = .ok (.astore_n 3, 1) := by decide +kernel
theorem dL_firing_13 : decode cL_firing 13 = .ok (.iconst 1, 1) := by decide +kernel
theorem dL_firing_14 : decode cL_firing 14 = .ok (.ireturn, 1) := by decide +kernel
theorem dL_firing_15 : decode cL_firing 15 = .ok (.iconst 0, 1) := by decide +kernel
theorem dL_firing_16 : decode cL_firing 16 = .ok (.ireturn, 1) := by decide +kernel
set_option maxRecDepth 20000 in
theorem ggL_kill_X9_kill : GoodIn wsL_kill wsX9_kill := goodIn_ca (goodIn_r _ [6, 7, 8, 9, 10, 11, 12, 13, 5, 14, 15, 16, 17, 18, 19, 20, 21, 22, 23, 24, 25, 26, 27, 28, 29, 30, 31, 32, 33] (by decide +kernel) (by decide +kernel)) (goodIn_sub (fun _ h => List.mem_cons_of_mem _ (List.mem_append_right _ h)) (by decide +kernel))
set_option maxRecDepth 20000 in
theorem gL_kill_X9_kill : GoodIn wsL_kill (wsV RL 74 RX9 yX9_kill wsX9_kill) := goodIn_app (goodIn_of _ (by decide +kernel)) ggL_kill_X9_kill
theorem dL_kill_0 : decode cL_kill 0 = .ok (.aload_n 3, 1) := by decide +kernel
theorem dL_kill_1 : decode cL_kill 1 = .ok (.iconst 0, 1) := by decide +kernel
theorem dL_kill_2 : decode cL_kill 2 = .ok (.aload_n 0, 1) := by decide +kernel
theorem dL_kill_3 : decode cL_kill 3 = .ok (.iload_n 1, 1) := by decide +kernel
theorem dL_kill_4 : decode cL_kill 4 = .ok (.iload_n 2, 1) := by decide +kernel
theorem dL_kill_5 : decode cL_kill 5 = .ok (.invokevirtual 74, 3) := by decide +kernel
theorem dL_kill_8 : decode cL_kill 8 = .ok (.ifCond .eq 7, 3) := by decide +kernel
theorem dL_kill_11 : decode cL_kill 11 = .ok (.lconst 1, 1) := by decide +kernel
theorem dL_kill_12 : decode cL_kill 12 = .ok (.goto 4, 3) := by decide +kernel
theorem dL_kill_15 : decode cL_kill 15 = .ok (.lconst 0, 1) := by decide +kernel
theorem dL_kill_16 : decode cL_kill 16 = .ok (.lastore, 1) := by decide +kernel
theorem dL_kill_17 : decode cL_kill 17 = .ok (.goto 7, 3) := by decide +kernel
theorem dL_kill_20 : decode cL_kill 20 = .ok (.astore 4, 2) := by decide +kernel
theorem dL_kill_22 : decode cL_kill 22 = .ok (.iconst 1, 1) := by decide +kernel
theorem dL_kill_23 : decode cL_kill 23 = .ok (.ireturn, 1) := by decide +kernel
theorem dL_kill_24 : decode cL_kill 24 = .ok (.iconst 0, 1) := by decide +kernel
theorem dL_kill_25 : decode cL_kill 25 = .ok (.ireturn, 1) := by decide +kernel
set_option maxRecDepth 20000 in
theorem ggL_setGap_X9_setGap : GoodIn wsL_setGap wsX9_setGap := goodIn_ca (goodIn_r _ [6, 7, 8, 9, 10, 11, 12, 13, 5, 14, 15, 16, 17, 18, 19, 20, 21, 22, 23, 24, 25, 26, 27, 28, 29, 30, 31, 32, 33] (by decide +kernel) (by decide +kernel)) (goodIn_sub (fun _ h => List.mem_cons_of_mem _ (List.mem_append_right _ h)) (by decide +kernel))
set_option maxRecDepth 20000 in
theorem gL_setGap_X9_setGap : GoodIn wsL_setGap (wsV RL 78 RX9 yX9_setGap wsX9_setGap) := goodIn_app (goodIn_of _ (by decide +kernel)) ggL_setGap_X9_setGap
theorem dL_setGap_0 : decode cL_setGap 0 = .ok (.aload_n 2, 1) := by decide +kernel
theorem dL_setGap_1 : decode cL_setGap 1 = .ok (.iconst 0, 1) := by decide +kernel
theorem dL_setGap_2 : decode cL_setGap 2 = .ok (.aload_n 0, 1) := by decide +kernel
theorem dL_setGap_3 : decode cL_setGap 3 = .ok (.iload_n 1, 1) := by decide +kernel
theorem dL_setGap_4 : decode cL_setGap 4 = .ok (.invokevirtual 78, 3) := by decide +kernel
theorem dL_setGap_7 : decode cL_setGap 7 = .ok (.i2l, 1) := by decide +kernel
theorem dL_setGap_8 : decode cL_setGap 8 = .ok (.lastore, 1) := by decide +kernel
theorem dL_setGap_9 : decode cL_setGap 9 = .ok (.goto 6, 3) := by decide +kernel
theorem dL_setGap_12 : decode cL_setGap 12 = .ok (.astore_n 3, 1) := by decide +kernel
theorem dL_setGap_13 : decode cL_setGap 13 = .ok (.iconst 1, 1) := by decide +kernel
theorem dL_setGap_14 : decode cL_setGap 14 = .ok (.ireturn, 1) := by decide +kernel
theorem dL_setGap_15 : decode cL_setGap 15 = .ok (.iconst 0, 1) := by decide +kernel
theorem dL_setGap_16 : decode cL_setGap 16 = .ok (.ireturn, 1) := by decide +kernel
set_option maxRecDepth 20000 in
theorem ggL_channelOf_X9_channelOf : GoodIn wsL_channelOf wsX9_channelOf := goodIn_ca (goodIn_r _ [6, 7, 8, 9, 10, 5, 11, 12, 13, 14, 15, 16, 17, 18, 19, 20, 21, 22, 23, 24, 25, 26, 27, 28, 29, 30, 31, 32, 33, 34, 35, 36, 37, 38, 39, 40, 41, 42, 43, 44, 45, 46, 47, 48, 49, 50, 51, 52, 53, 54, 55, 56, 57, 58, 59, 60, 61, 62, 63, 64, 65, 66, 67, 68, 69, 70, 71, 72, 73, 74, 75, 76, 77, 78, 79, 80, 81, 82, 83, 84, 85, 86, 87, 88, 89, 90, 91, 92, 93, 94, 95, 96, 97, 98, 99, 100, 101, 102, 103, 104, 105, 106, 107, 108, 109, 110, 111, 112, 113, 114, 115, 116, 117, 118, 119, 120, 121, 122, 123, 124, 125, 126, 127, 128, 129, 130, 131, 132, 133, 134, 135, 136, 137, 138, 139, 140, 141, 142, 143, 144, 145, 146, 147, 148, 149, 150, 151, 152, 153, 154, 155, 156, 157, 158, 159, 160, 161, 162, 163, 164, 165, 166, 167, 168, 169, 170, 171, 172, 173, 174, 175, 176, 177, 178, 179, 180, 181, 182, 183, 184, 185, 186, 187, 188] (by decide +kernel) (by decide +kernel)) (goodIn_sub (fun _ h => List.mem_cons_of_mem _ (List.mem_append_right _ h)) (by decide +kernel))
set_option maxRecDepth 20000 in
theorem gL_channelOf_X9_channelOf : GoodIn wsL_channelOf (wsV RL 81 RX9 yX9_channelOf wsX9_channelOf) := goodIn_app (goodIn_of _ (by decide +kernel)) ggL_channelOf_X9_channelOf
theorem dL_channelOf_0 : decode cL_channelOf 0 = .ok (.aload_n 2, 1) := by decide +kernel
theorem dL_channelOf_1 : decode cL_channelOf 1 = .ok (.iconst 0, 1) := by decide +kernel
theorem dL_channelOf_2 : decode cL_channelOf 2 = .ok (.aload_n 0, 1) := by decide +kernel
theorem dL_channelOf_3 : decode cL_channelOf 3 = .ok (.iload_n 1, 1) := by decide +kernel
theorem dL_channelOf_4 : decode cL_channelOf 4 = .ok (.invokevirtual 81, 3) := by decide +kernel
theorem dL_channelOf_7 : decode cL_channelOf 7 = .ok (.i2l, 1) := by decide +kernel
theorem dL_channelOf_8 : decode cL_channelOf 8 = .ok (.lastore, 1) := by decide +kernel
theorem dL_channelOf_9 : decode cL_channelOf 9 = .ok (.goto 6, 3) := by decide +kernel
theorem dL_channelOf_12 : decode cL_channelOf 12 = .ok (.astore_n 3, 1) := by decide +kernel
theorem dL_channelOf_13 : decode cL_channelOf 13 = .ok (.iconst 1, 1) := by decide +kernel
theorem dL_channelOf_14 : decode cL_channelOf 14 = .ok (.ireturn, 1) := by decide +kernel
theorem dL_channelOf_15 : decode cL_channelOf 15 = .ok (.iconst 0, 1) := by decide +kernel
theorem dL_channelOf_16 : decode cL_channelOf 16 = .ok (.ireturn, 1) := by decide +kernel
set_option maxRecDepth 20000 in
theorem ggL_cueOn_X9_cueOn : GoodIn wsL_cueOn wsX9_cueOn := goodIn_ca (goodIn_r _ [6, 7, 8, 9, 10, 11, 12, 5, 13, 14, 15, 16, 17, 18, 19, 20, 21, 22, 23, 24, 25, 26, 27, 28, 29, 30, 31, 32, 33, 34, 35, 36, 37, 38, 39, 40, 41, 42, 43, 44, 45, 46, 47, 48, 49, 50, 51, 52, 53, 54, 55, 56, 57, 58, 59, 60, 61, 62, 63, 64, 65, 66, 67, 68, 69, 70, 71, 72, 73, 74, 75, 76, 77, 78, 79, 80, 81, 82, 83, 84, 85, 86, 87, 88, 89, 90, 91, 92, 93, 94, 95, 96, 97, 98, 99, 100, 101, 102, 103, 104, 105, 106, 107, 108, 109, 110, 111, 112, 113, 114, 115, 116, 117, 118, 119, 120, 121, 122, 123, 124, 125, 126, 127, 128, 129, 130, 131, 132, 133, 134, 135, 136, 137, 138, 139, 140, 141, 142, 143, 144, 145, 146, 147, 148, 149, 150, 151, 152, 153, 154, 155, 156, 157, 158, 159, 160, 161, 162, 163, 164, 165, 166, 167, 168, 169, 170, 171, 172, 173, 174, 175, 176, 177, 178, 179, 180, 181] (by decide +kernel) (by decide +kernel)) (goodIn_sub (fun _ h => List.mem_cons_of_mem _ (List.mem_append_right _ h)) (by decide +kernel))
set_option maxRecDepth 20000 in
theorem gL_cueOn_X9_cueOn : GoodIn wsL_cueOn (wsV RL 84 RX9 yX9_cueOn wsX9_cueOn) := goodIn_app (goodIn_of _ (by decide +kernel)) ggL_cueOn_X9_cueOn
theorem dL_cueOn_0 : decode cL_cueOn 0 = .ok (.aload_n 3, 1) := by decide +kernel
theorem dL_cueOn_1 : decode cL_cueOn 1 = .ok (.iconst 0, 1) := by decide +kernel
theorem dL_cueOn_2 : decode cL_cueOn 2 = .ok (.aload_n 0, 1) := by decide +kernel
theorem dL_cueOn_3 : decode cL_cueOn 3 = .ok (.iload_n 1, 1) := by decide +kernel
theorem dL_cueOn_4 : decode cL_cueOn 4 = .ok (.iload_n 2, 1) := by decide +kernel
theorem dL_cueOn_5 : decode cL_cueOn 5 = .ok (.invokevirtual 84, 3) := by decide +kernel
theorem dL_cueOn_8 : decode cL_cueOn 8 = .ok (.i2l, 1) := by decide +kernel
theorem dL_cueOn_9 : decode cL_cueOn 9 = .ok (.lastore, 1) := by decide +kernel
theorem dL_cueOn_10 : decode cL_cueOn 10 = .ok (.goto 7, 3) := by decide +kernel
theorem dL_cueOn_13 : decode cL_cueOn 13 = .ok (.astore 4, 2) := by decide +kernel
theorem dL_cueOn_15 : decode cL_cueOn 15 = .ok (.iconst 1, 1) := by decide +kernel
theorem dL_cueOn_16 : decode cL_cueOn 16 = .ok (.ireturn, 1) := by decide +kernel
theorem dL_cueOn_17 : decode cL_cueOn 17 = .ok (.iconst 0, 1) := by decide +kernel
theorem dL_cueOn_18 : decode cL_cueOn 18 = .ok (.ireturn, 1) := by decide +kernel
set_option maxRecDepth 20000 in
theorem ggL_setRate_X9_setRate : GoodIn wsL_setRate wsX9_setRate := goodIn_ca (goodIn_r _ [6, 7, 8, 9, 10, 11, 12, 5, 13, 14, 15, 16, 17, 18, 19, 20, 21, 22, 23, 24, 25, 26, 27, 28] (by decide +kernel) (by decide +kernel)) (goodIn_sub (fun _ h => List.mem_cons_of_mem _ (List.mem_append_right _ h)) (by decide +kernel))
set_option maxRecDepth 20000 in
theorem gL_setRate_X9_setRate : GoodIn wsL_setRate (wsV RL 87 RX9 yX9_setRate wsX9_setRate) := goodIn_app (goodIn_of _ (by decide +kernel)) ggL_setRate_X9_setRate
theorem dL_setRate_0 : decode cL_setRate 0 = .ok (.aload_n 3, 1) := by decide +kernel
theorem dL_setRate_1 : decode cL_setRate 1 = .ok (.iconst 0, 1) := by decide +kernel
theorem dL_setRate_2 : decode cL_setRate 2 = .ok (.aload_n 0, 1) := by decide +kernel
theorem dL_setRate_3 : decode cL_setRate 3 = .ok (.iload_n 1, 1) := by decide +kernel
theorem dL_setRate_4 : decode cL_setRate 4 = .ok (.iload_n 2, 1) := by decide +kernel
theorem dL_setRate_5 : decode cL_setRate 5 = .ok (.invokevirtual 87, 3) := by decide +kernel
theorem dL_setRate_8 : decode cL_setRate 8 = .ok (.i2l, 1) := by decide +kernel
theorem dL_setRate_9 : decode cL_setRate 9 = .ok (.lastore, 1) := by decide +kernel
theorem dL_setRate_10 : decode cL_setRate 10 = .ok (.goto 7, 3) := by decide +kernel
theorem dL_setRate_13 : decode cL_setRate 13 = .ok (.astore 4, 2) := by decide +kernel
theorem dL_setRate_15 : decode cL_setRate 15 = .ok (.iconst 1, 1) := by decide +kernel
theorem dL_setRate_16 : decode cL_setRate 16 = .ok (.ireturn, 1) := by decide +kernel
theorem dL_setRate_17 : decode cL_setRate 17 = .ok (.iconst 0, 1) := by decide +kernel
theorem dL_setRate_18 : decode cL_setRate 18 = .ok (.ireturn, 1) := by decide +kernel
set_option maxRecDepth 20000 in
theorem ggL_price_X9_price : GoodIn wsL_price wsX9_price := goodIn_ca (goodIn_r _ [6, 7, 8, 9, 10, 5, 11, 12, 13, 14, 15, 16, 17, 18, 19, 20, 21, 22, 23, 24, 25, 26, 27, 28, 29, 30, 31, 32, 33, 34, 35, 36, 37, 38, 39, 40, 41, 42, 43, 44, 45, 46, 47, 48, 49, 50, 51, 52, 53, 54, 55, 56, 57, 58, 59, 60, 61, 62, 63, 64, 65, 66, 67, 68, 69, 70, 71, 72, 73, 74, 75, 76, 77, 78, 79, 80, 81, 82, 83, 84, 85, 86, 87, 88, 89, 90, 91, 92, 93, 94, 95, 96, 97, 98, 99, 100, 101, 102, 103, 104, 105, 106, 107, 108, 109, 110, 111, 112, 113, 114, 115, 116, 117, 118, 119, 120, 121, 122, 123, 124, 125, 126, 127, 128, 129, 130, 131, 132, 133, 134, 135, 136, 137, 138, 139, 140, 141, 142, 143, 144, 145, 146, 147, 148, 149, 150, 151, 152, 153, 154, 155, 156, 157, 158, 159, 160, 161, 162, 163, 164, 165, 166, 167, 168, 169, 170, 171, 172, 173, 174, 175, 176, 177, 178, 179, 180, 181, 182, 183, 184, 185, 186, 187, 188, 189, 190, 191, 192, 193, 194, 195, 196, 197, 198, 199, 200, 201, 202] (by decide +kernel) (by decide +kernel)) (goodIn_sub (fun _ h => List.mem_cons_of_mem _ (List.mem_append_right _ h)) (by decide +kernel))
set_option maxRecDepth 20000 in
theorem gL_price_X9_price : GoodIn wsL_price (wsV RL 90 RX9 yX9_price wsX9_price) := goodIn_app (goodIn_of _ (by decide +kernel)) ggL_price_X9_price
theorem dL_price_0 : decode cL_price 0 = .ok (.aload_n 2, 1) := by decide +kernel
theorem dL_price_1 : decode cL_price 1 = .ok (.iconst 0, 1) := by decide +kernel
theorem dL_price_2 : decode cL_price 2 = .ok (.aload_n 0, 1) := by decide +kernel
theorem dL_price_3 : decode cL_price 3 = .ok (.iload_n 1, 1) := by decide +kernel
theorem dL_price_4 : decode cL_price 4 = .ok (.invokevirtual 90, 3) := by decide +kernel
theorem dL_price_7 : decode cL_price 7 = .ok (.i2l, 1) := by decide +kernel
theorem dL_price_8 : decode cL_price 8 = .ok (.lastore, 1) := by decide +kernel
theorem dL_price_9 : decode cL_price 9 = .ok (.goto 6, 3) := by decide +kernel
theorem dL_price_12 : decode cL_price 12 = .ok (.astore_n 3, 1) := by decide +kernel
theorem dL_price_13 : decode cL_price 13 = .ok (.iconst 1, 1) := by decide +kernel
theorem dL_price_14 : decode cL_price 14 = .ok (.ireturn, 1) := by decide +kernel
theorem dL_price_15 : decode cL_price 15 = .ok (.iconst 0, 1) := by decide +kernel
theorem dL_price_16 : decode cL_price 16 = .ok (.ireturn, 1) := by decide +kernel
set_option maxRecDepth 20000 in
theorem ggL_law_X9_init : GoodIn wsL_law wsX9_init := goodIn_r _ [9, 10, 11, 12, 13, 14, 15, 16, 17, 18, 19, 20, 21, 22, 23, 24, 25, 26, 27, 28, 29, 30, 31, 32, 33, 34, 35, 36, 37, 38, 39, 40, 41, 42, 43, 44, 45, 46, 47, 48, 49, 50, 51, 52, 53, 54, 55, 56, 57, 58, 59, 60, 61, 62, 63, 64, 65, 66, 67, 68, 69, 70, 71, 72, 73, 74, 75, 76, 77, 78, 79, 80, 81, 82, 83, 84, 85, 86, 87, 88, 89, 90, 91, 92, 93, 94, 95, 96, 97, 98, 99, 100, 101, 102, 103, 104, 105, 106, 107, 108, 109, 110, 111, 112, 113, 114, 115, 116, 117, 118, 119, 120, 121, 122, 123, 124, 125, 126, 127, 128, 129, 130, 131, 132, 133, 134, 135, 136, 137, 820, 821, 776, 777, 778, 779, 780, 781, 782, 783, 784, 785, 786, 787, 788, 789, 790, 822, 823, 824, 825, 826, 827, 828, 829, 830, 831, 832, 833, 834, 835, 836, 837, 838, 839, 840, 841, 842, 843, 844, 845, 846, 847, 848] (by decide +kernel) (by decide +kernel)
set_option maxRecDepth 20000 in
theorem gL_law_X9_init : GoodIn wsL_law (wsX9_init) := ggL_law_X9_init
set_option maxRecDepth 20000 in
theorem ggL_law_X10_init : GoodIn wsL_law wsX10_init := goodIn_r _ [140, 141, 11, 12, 40, 142, 143, 144, 145, 146, 147, 148, 149, 150, 151, 152, 153, 154, 155, 81, 156, 157, 158, 159, 160, 161, 162, 163, 164, 165, 166, 167, 168, 169, 170, 5, 171, 791, 792, 793, 794, 795, 796, 797, 798, 799, 800, 801, 802, 803, 804, 805, 806, 807, 808, 809, 810, 811, 812, 813, 814, 815, 816, 817, 818, 819] (by decide +kernel) (by decide +kernel)
set_option maxRecDepth 20000 in
theorem gL_law_X10_init : GoodIn wsL_law (wsX10_init) := ggL_law_X10_init
set_option maxRecDepth 20000 in
theorem ggL_law_L_setRack : GoodIn wsL_law wsL_setRack := goodIn_ca (goodIn_r _ [175, 176, 177, 178, 179, 2, 180, 181, 182, 18, 183, 184, 46, 185, 186, 187, 188, 189, 190, 191, 192, 193, 776, 777, 778, 779, 780, 781, 782, 783, 784, 785, 786, 787, 788, 789, 790, 835, 836] (by decide +kernel) (by decide +kernel)) (goodIn_sub (fun _ h => List.mem_append_left _ (List.mem_append_left _ (List.mem_append_right _ h))) (by decide +kernel))
set_option maxRecDepth 20000 in
theorem gL_law_L_setRack : GoodIn wsL_law (va_wsS RL 97 yL_setRack wsL_setRack) := goodIn_app (goodIn_of _ (by decide +kernel)) ggL_law_L_setRack
set_option maxRecDepth 20000 in
theorem ggL_law_X10_setRack : GoodIn wsL_law wsX10_setRack := goodIn_r _ [197, 142, 198, 199, 5, 200, 201, 202, 203, 204, 205, 206, 207, 208, 791, 792, 793, 794, 795, 796, 797, 798, 799, 800, 801, 802, 803, 804, 805, 806, 807, 808, 809, 810, 811, 812, 813, 814, 815, 816, 817, 818, 819] (by decide +kernel) (by decide +kernel)
set_option maxRecDepth 20000 in
theorem gL_law_X10_setRack : GoodIn wsL_law (wsV RL 102 RX10 yX10_setRack wsX10_setRack) := goodIn_app (goodIn_of _ (by decide +kernel)) ggL_law_X10_setRack
set_option maxRecDepth 20000 in
theorem ggL_law_X10_thrown : GoodIn wsL_law wsX10_thrown := goodIn_r _ [212, 208, 791, 792, 793, 794, 795, 796, 797, 798, 799, 800, 801, 802, 803, 804, 805, 806, 807, 808, 809, 810, 811, 812, 813, 814, 815, 816, 817, 818, 819] (by decide +kernel) (by decide +kernel)
set_option maxRecDepth 20000 in
theorem gL_law_X10_thrown : GoodIn wsL_law (wsV RL 103 RX10 yX10_thrown wsX10_thrown) := goodIn_app (goodIn_of _ (by decide +kernel)) ggL_law_X10_thrown
set_option maxRecDepth 20000 in
theorem ggL_law_L_setShell : GoodIn wsL_law wsL_setShell := goodIn_ca (goodIn_r _ [215, 176, 216, 217, 218, 2, 219, 181, 182, 20, 46, 220, 185, 186, 187, 221, 99, 100, 50, 101, 102, 103, 104, 105, 106, 95, 97, 107, 108, 109, 110, 111, 112, 113, 114, 115, 116, 66, 117, 118, 119, 120, 121, 122, 123, 124, 125, 126, 127, 128, 129, 130, 131, 132, 133, 134, 135, 136, 137, 776, 777, 778, 779, 780, 781, 782, 783, 784, 785, 786, 787, 788, 789, 790, 837, 838, 839, 840, 841, 842, 843, 844, 845, 846, 847, 848] (by decide +kernel) (by decide +kernel)) (goodIn_sub (fun _ h => List.mem_append_left _ (List.mem_append_left _ (List.mem_append_right _ h))) (by decide +kernel))
set_option maxRecDepth 20000 in
theorem gL_law_L_setShell : GoodIn wsL_law (va_wsS RL 107 yL_setShell wsL_setShell) := goodIn_app (goodIn_of _ (by decide +kernel)) ggL_law_L_setShell
set_option maxRecDepth 20000 in
theorem ggL_law_X10_setShell : GoodIn wsL_law wsX10_setShell := goodIn_r _ [225, 143, 144, 145, 146, 226, 227, 5, 228, 198, 199, 200, 204, 205, 206, 207, 208, 168, 169, 170, 171, 149, 150, 147, 148, 791, 792, 793, 794, 795, 796, 797, 798, 799, 800, 801, 802, 803, 804, 805, 806, 807, 808, 809, 810, 811, 812, 813, 814, 815, 816, 817, 818, 819] (by decide +kernel) (by decide +kernel)
set_option maxRecDepth 20000 in
theorem gL_law_X10_setShell : GoodIn wsL_law (wsV RL 110 RX10 yX10_setShell wsX10_setShell) := goodIn_app (goodIn_of _ (by decide +kernel)) ggL_law_X10_setShell
set_option maxRecDepth 20000 in
theorem ggL_law_L_setWind : GoodIn wsL_law wsL_setWind := goodIn_ca (goodIn_r _ [231, 176, 232, 233, 234, 2, 235, 181, 182, 24, 236, 237, 46, 238, 185, 186, 187, 239, 240, 241, 242, 30, 243, 244, 245, 246, 247, 248, 34, 249, 250, 251, 252, 16, 253, 254, 255, 256, 257, 258, 15, 259, 54, 260, 261, 262, 263, 264, 265, 266, 267, 48, 268, 89, 269, 270, 271, 50, 272, 95, 273, 274, 275, 276, 277, 278, 279, 280, 281, 282, 283, 284, 90, 285, 286, 287, 288, 132, 129, 133, 289, 128, 130, 191, 192, 193, 290, 291, 292, 33, 293, 74, 75, 294, 295, 77, 76, 296, 111, 112, 113, 297, 298, 299, 300, 44, 301, 302, 45, 303, 220, 304, 305, 306, 307, 308, 309, 39, 310, 311, 312, 313, 38, 314, 315, 316, 37, 317, 83, 84, 318, 319, 320, 321, 322, 323, 324, 325, 326, 85, 82, 327, 328, 329, 330, 331, 332, 333, 776, 777, 778, 779, 780, 781, 782, 783, 784, 785, 786, 787, 788, 789, 790, 822, 823, 849, 850, 851, 852, 853, 854, 855, 856, 857, 837, 838, 839, 840, 841, 842, 843, 820, 821, 835, 836, 827, 828, 829, 830, 831, 832, 833, 834] (by decide +kernel) (by decide +kernel)) (goodIn_sub (fun _ h => List.mem_append_left _ (List.mem_append_left _ (List.mem_append_right _ h))) (by decide +kernel))
set_option maxRecDepth 20000 in
theorem gL_law_L_setWind : GoodIn wsL_law (va_wsS RL 111 yL_setWind wsL_setWind) := goodIn_app (goodIn_of _ (by decide +kernel)) ggL_law_L_setWind
set_option maxRecDepth 20000 in
theorem ggL_law_X10_setWind : GoodIn wsL_law wsX10_setWind := goodIn_r _ [337, 338, 163, 162, 151, 152, 339, 340, 5, 341, 198, 199, 200, 204, 205, 206, 207, 208, 342, 343, 344, 345, 153, 346, 347, 348, 349, 145, 160, 350, 351, 352, 353, 142, 161, 149, 150, 354, 355, 356, 791, 792, 793, 794, 795, 796, 797, 798, 799, 800, 801, 802, 803, 804, 805, 806, 807, 808, 809, 810, 811, 812, 813, 814, 815, 816, 817, 818, 819] (by decide +kernel) (by decide +kernel)
set_option maxRecDepth 20000 in
theorem gL_law_X10_setWind : GoodIn wsL_law (wsV RL 113 RX10 yX10_setWind wsX10_setWind) := goodIn_app (goodIn_of _ (by decide +kernel)) ggL_law_X10_setWind
set_option maxRecDepth 20000 in
theorem ggL_law_L_setPeople : GoodIn wsL_law wsL_setPeople := goodIn_ca (goodIn_r _ [359, 176, 360, 361, 362, 2, 363, 181, 182, 16, 364, 46, 188, 189, 190, 185, 186, 187, 191, 192, 193, 776, 777, 778, 779, 780, 781, 782, 783, 784, 785, 786, 787, 788, 789, 790, 820, 821] (by decide +kernel) (by decide +kernel)) (goodIn_sub (fun _ h => List.mem_append_left _ (List.mem_append_left _ (List.mem_append_right _ h))) (by decide +kernel))
set_option maxRecDepth 20000 in
theorem gL_law_L_setPeople : GoodIn wsL_law (va_wsS RL 114 yL_setPeople wsL_setPeople) := goodIn_app (goodIn_of _ (by decide +kernel)) ggL_law_L_setPeople
set_option maxRecDepth 20000 in
theorem ggL_law_X10_setPeople : GoodIn wsL_law wsX10_setPeople := goodIn_r _ [368, 153, 201, 202, 5, 203, 198, 199, 200, 204, 205, 206, 207, 208, 791, 792, 793, 794, 795, 796, 797, 798, 799, 800, 801, 802, 803, 804, 805, 806, 807, 808, 809, 810, 811, 812, 813, 814, 815, 816, 817, 818, 819] (by decide +kernel) (by decide +kernel)
set_option maxRecDepth 20000 in
theorem gL_law_X10_setPeople : GoodIn wsL_law (wsV RL 116 RX10 yX10_setPeople wsX10_setPeople) := goodIn_app (goodIn_of _ (by decide +kernel)) ggL_law_X10_setPeople
set_option maxRecDepth 20000 in
theorem ggL_law_L_setValue : GoodIn wsL_law wsL_setValue := goodIn_ca (goodIn_r _ [371, 176, 372, 373, 374, 2, 375, 181, 182, 376, 16, 377, 188, 189, 190, 185, 186, 187, 191, 192, 193, 776, 777, 778, 779, 780, 781, 782, 783, 784, 785, 786, 787, 788, 789, 790, 820, 821] (by decide +kernel) (by decide +kernel)) (goodIn_sub (fun _ h => List.mem_append_left _ (List.mem_append_left _ (List.mem_append_right _ h))) (by decide +kernel))
set_option maxRecDepth 20000 in
theorem gL_law_L_setValue : GoodIn wsL_law (va_wsS RL 117 yL_setValue wsL_setValue) := goodIn_app (goodIn_of _ (by decide +kernel)) ggL_law_L_setValue
set_option maxRecDepth 20000 in
theorem ggL_law_X10_setValue : GoodIn wsL_law wsX10_setValue := goodIn_r _ [381, 382, 154, 201, 202, 5, 203, 198, 199, 200, 204, 205, 206, 207, 208, 791, 792, 793, 794, 795, 796, 797, 798, 799, 800, 801, 802, 803, 804, 805, 806, 807, 808, 809, 810, 811, 812, 813, 814, 815, 816, 817, 818, 819] (by decide +kernel) (by decide +kernel)
set_option maxRecDepth 20000 in
theorem gL_law_X10_setValue : GoodIn wsL_law (wsV RL 119 RX10 yX10_setValue wsX10_setValue) := goodIn_app (goodIn_of _ (by decide +kernel)) ggL_law_X10_setValue
set_option maxRecDepth 20000 in
theorem ggL_law_X9_peopled : GoodIn wsL_law wsX9_peopled := goodIn_r _ [386, 16, 256, 257, 258, 15, 259, 54, 327, 328, 329, 330, 331, 332, 333, 776, 777, 778, 779, 780, 781, 782, 783, 784, 785, 786, 787, 788, 789, 790, 820, 821] (by decide +kernel) (by decide +kernel)
set_option maxRecDepth 20000 in
theorem gL_law_X9_peopled : GoodIn wsL_law (wsV RL 120 RX9 yX9_peopled wsX9_peopled) := goodIn_app (goodIn_of _ (by decide +kernel)) ggL_law_X9_peopled
set_option maxRecDepth 20000 in
theorem ggL_law_X10_peopled : GoodIn wsL_law wsX10_peopled := goodIn_r _ [390, 153, 391, 392, 393, 5, 394, 208, 791, 792, 793, 794, 795, 796, 797, 798, 799, 800, 801, 802, 803, 804, 805, 806, 807, 808, 809, 810, 811, 812, 813, 814, 815, 816, 817, 818, 819] (by decide +kernel) (by decide +kernel)
set_option maxRecDepth 20000 in
theorem gL_law_X10_peopled : GoodIn wsL_law (wsV RL 123 RX10 yX10_peopled wsX10_peopled) := goodIn_app (goodIn_of _ (by decide +kernel)) ggL_law_X10_peopled
set_option maxRecDepth 20000 in
theorem ggL_law_L_flight : GoodIn wsL_law wsL_flight := goodIn_ca (goodIn_r _ [397, 176, 398, 399, 400, 2, 401, 181, 182, 20, 402, 185, 186, 187, 776, 777, 778, 779, 780, 781, 782, 783, 784, 785, 786, 787, 788, 789, 790, 837, 838, 839, 840, 841, 842, 843] (by decide +kernel) (by decide +kernel)) (goodIn_sub (fun _ h => List.mem_append_left _ (List.mem_append_left _ (List.mem_append_right _ h))) (by decide +kernel))
set_option maxRecDepth 20000 in
theorem gL_law_L_flight : GoodIn wsL_law (va_wsS RL 124 yL_flight wsL_flight) := goodIn_app (goodIn_of _ (by decide +kernel)) ggL_law_L_flight
set_option maxRecDepth 20000 in
theorem ggL_law_X10_flight : GoodIn wsL_law wsX10_flight := goodIn_r _ [406, 147, 226, 227, 5, 228, 198, 199, 200, 204, 205, 206, 207, 208, 791, 792, 793, 794, 795, 796, 797, 798, 799, 800, 801, 802, 803, 804, 805, 806, 807, 808, 809, 810, 811, 812, 813, 814, 815, 816, 817, 818, 819] (by decide +kernel) (by decide +kernel)
set_option maxRecDepth 20000 in
theorem gL_law_X10_flight : GoodIn wsL_law (wsV RL 127 RX10 yX10_flight wsX10_flight) := goodIn_app (goodIn_of _ (by decide +kernel)) ggL_law_X10_flight
set_option maxRecDepth 20000 in
theorem ggL_law_L_inLayer : GoodIn wsL_law wsL_inLayer := goodIn_ca (goodIn_r _ [409, 176, 410, 411, 412, 2, 413, 181, 182, 20, 414, 185, 186, 187, 776, 777, 778, 779, 780, 781, 782, 783, 784, 785, 786, 787, 788, 789, 790, 837, 838, 839, 840, 841, 842, 843] (by decide +kernel) (by decide +kernel)) (goodIn_sub (fun _ h => List.mem_append_left _ (List.mem_append_left _ (List.mem_append_right _ h))) (by decide +kernel))
set_option maxRecDepth 20000 in
theorem gL_law_L_inLayer : GoodIn wsL_law (va_wsS RL 128 yL_inLayer wsL_inLayer) := goodIn_app (goodIn_of _ (by decide +kernel)) ggL_law_L_inLayer
set_option maxRecDepth 20000 in
theorem ggL_law_X10_inLayer : GoodIn wsL_law wsX10_inLayer := goodIn_r _ [418, 149, 226, 227, 5, 228, 198, 199, 200, 339, 340, 341, 204, 205, 206, 207, 208, 791, 792, 793, 794, 795, 796, 797, 798, 799, 800, 801, 802, 803, 804, 805, 806, 807, 808, 809, 810, 811, 812, 813, 814, 815, 816, 817, 818, 819] (by decide +kernel) (by decide +kernel)
set_option maxRecDepth 20000 in
theorem gL_law_X10_inLayer : GoodIn wsL_law (wsV RL 131 RX10 yX10_inLayer wsX10_inLayer) := goodIn_app (goodIn_of _ (by decide +kernel)) ggL_law_X10_inLayer
set_option maxRecDepth 20000 in
theorem ggL_law_L_cue : GoodIn wsL_law wsL_cue := goodIn_ca (goodIn_ca (goodIn_r _ [421, 176, 422, 423, 424, 425, 2, 426, 181, 182, 427, 428, 42, 30, 29, 429, 430, 20, 18, 43, 46, 185, 186, 187, 431, 432, 433, 434, 11, 12, 435, 436, 437, 438, 439, 440, 441, 442, 443, 776, 777, 778, 779, 780, 781, 782, 783, 784, 785, 786, 787, 788, 789, 790, 849, 850, 851, 852, 853, 854, 855, 856, 857] (by decide +kernel) (by decide +kernel)) (goodIn_sub (fun _ h => List.mem_append_left _ (List.mem_append_left _ (List.mem_append_right _ h))) (by decide +kernel))) (goodIn_sub (fun _ h => List.mem_append_left _ (List.mem_append_right _ h)) (by decide +kernel))
set_option maxRecDepth 20000 in
theorem gL_law_L_cue : GoodIn wsL_law (va_wsS RL 132 yL_cue wsL_cue) := goodIn_app (goodIn_of _ (by decide +kernel)) ggL_law_L_cue
set_option maxRecDepth 20000 in
theorem ggL_law_X10_cue : GoodIn wsL_law wsX10_cue := goodIn_r _ [447, 338, 159, 160, 161, 198, 199, 5, 200, 226, 227, 228, 204, 205, 206, 207, 208, 791, 792, 793, 794, 795, 796, 797, 798, 799, 800, 801, 802, 803, 804, 805, 806, 807, 808, 809, 810, 811, 812, 813, 814, 815, 816, 817, 818, 819] (by decide +kernel) (by decide +kernel)
set_option maxRecDepth 20000 in
theorem gL_law_X10_cue : GoodIn wsL_law (wsV RL 134 RX10 yX10_cue wsX10_cue) := goodIn_app (goodIn_of _ (by decide +kernel)) ggL_law_X10_cue
set_option maxRecDepth 20000 in
theorem ggL_law_L_cut : GoodIn wsL_law wsL_cut := goodIn_ca (goodIn_r _ [450, 451, 452, 453, 454, 2, 455, 30, 244, 43, 46, 456, 457, 458, 459, 460, 461, 185, 186, 187, 776, 777, 778, 779, 780, 781, 782, 783, 784, 785, 786, 787, 788, 789, 790, 849, 850, 851, 852, 853, 854, 855, 856, 857] (by decide +kernel) (by decide +kernel)) (goodIn_sub (fun _ h => List.mem_append_right _ h) (by decide +kernel))
set_option maxRecDepth 20000 in
theorem gL_law_L_cut : GoodIn wsL_law (va_wsS RL 135 yL_cut wsL_cut) := goodIn_app (goodIn_of _ (by decide +kernel)) ggL_law_L_cut
set_option maxRecDepth 20000 in
theorem ggL_law_X10_cut : GoodIn wsL_law wsX10_cut := goodIn_r _ [465, 162, 466, 467, 468, 5, 469, 338, 198, 199, 200, 204, 205, 206, 207, 208, 470, 471, 472, 473, 791, 792, 793, 794, 795, 796, 797, 798, 799, 800, 801, 802, 803, 804, 805, 806, 807, 808, 809, 810, 811, 812, 813, 814, 815, 816, 817, 818, 819] (by decide +kernel) (by decide +kernel)
set_option maxRecDepth 20000 in
theorem gL_law_X10_cut : GoodIn wsL_law (wsV RL 137 RX10 yX10_cut wsX10_cut) := goodIn_app (goodIn_of _ (by decide +kernel)) ggL_law_X10_cut
set_option maxRecDepth 20000 in
theorem ggL_law_L_setTempo : GoodIn wsL_law wsL_setTempo := goodIn_ca (goodIn_r _ [476, 176, 477, 478, 479, 2, 480, 181, 182, 45, 46, 185, 186, 187, 776, 777, 778, 779, 780, 781, 782, 783, 784, 785, 786, 787, 788, 789, 790] (by decide +kernel) (by decide +kernel)) (goodIn_sub (fun _ h => List.mem_append_left _ (List.mem_append_left _ (List.mem_append_right _ h))) (by decide +kernel))
set_option maxRecDepth 20000 in
theorem gL_law_L_setTempo : GoodIn wsL_law (va_wsS RL 138 yL_setTempo wsL_setTempo) := goodIn_app (goodIn_of _ (by decide +kernel)) ggL_law_L_setTempo
set_option maxRecDepth 20000 in
theorem ggL_law_X10_setTempo : GoodIn wsL_law wsX10_setTempo := goodIn_r _ [484, 157, 198, 199, 5, 200, 204, 205, 206, 207, 208, 791, 792, 793, 794, 795, 796, 797, 798, 799, 800, 801, 802, 803, 804, 805, 806, 807, 808, 809, 810, 811, 812, 813, 814, 815, 816, 817, 818, 819] (by decide +kernel) (by decide +kernel)
set_option maxRecDepth 20000 in
theorem gL_law_X10_setTempo : GoodIn wsL_law (wsV RL 140 RX10 yX10_setTempo wsX10_setTempo) := goodIn_app (goodIn_of _ (by decide +kernel)) ggL_law_X10_setTempo
set_option maxRecDepth 20000 in
theorem ggL_law_L_becomes : GoodIn wsL_law wsL_becomes := goodIn_ca (goodIn_r _ [487, 451, 488, 489, 490, 2, 491, 243, 492, 493, 494, 495, 456, 457, 458, 459, 460, 461, 30, 185, 186, 187, 245, 246, 247, 248, 46, 34, 249, 250, 251, 252, 16, 253, 254, 255, 256, 257, 258, 15, 259, 54, 260, 261, 262, 263, 264, 24, 236, 265, 266, 267, 48, 268, 89, 269, 270, 271, 50, 272, 95, 273, 274, 275, 276, 277, 278, 279, 280, 237, 281, 282, 283, 284, 90, 285, 286, 287, 288, 132, 129, 133, 289, 128, 130, 191, 192, 193, 290, 291, 292, 33, 293, 74, 75, 294, 295, 77, 76, 296, 111, 112, 113, 297, 298, 299, 300, 44, 301, 302, 45, 303, 220, 304, 305, 306, 307, 308, 309, 39, 310, 311, 312, 313, 38, 244, 314, 315, 316, 37, 317, 83, 84, 318, 319, 320, 321, 322, 323, 324, 325, 326, 85, 82, 849, 850, 851, 852, 853, 854, 855, 856, 857, 776, 777, 778, 779, 780, 781, 782, 783, 784, 785, 786, 787, 788, 789, 790, 837, 838, 839, 840, 841, 842, 843, 820, 821, 822, 823, 835, 836, 827, 828, 829, 830, 831, 832, 833, 834] (by decide +kernel) (by decide +kernel)) (goodIn_sub (fun _ h => List.mem_append_right _ h) (by decide +kernel))
set_option maxRecDepth 20000 in
theorem gL_law_L_becomes : GoodIn wsL_law (va_wsS RL 141 yL_becomes wsL_becomes) := goodIn_app (goodIn_of _ (by decide +kernel)) ggL_law_L_becomes
set_option maxRecDepth 20000 in
theorem ggL_law_X10_becomes : GoodIn wsL_law wsX10_becomes := goodIn_r _ [499, 163, 500, 501, 502, 5, 503, 504, 505, 506, 507, 338, 162, 165, 167, 508, 164, 159, 157, 146, 160, 166, 342, 343, 344, 345, 153, 346, 347, 348, 349, 145, 350, 351, 352, 353, 142, 161, 149, 150, 152, 151, 354, 355, 356, 198, 199, 200, 509, 510, 511, 512, 513, 514, 515, 516, 517, 518, 519, 520, 521, 522, 523, 524, 525, 526, 527, 528, 156, 529, 530, 531, 532, 158, 466, 467, 468, 469, 204, 205, 206, 207, 208, 791, 792, 793, 794, 795, 796, 797, 798, 799, 800, 801, 802, 803, 804, 805, 806, 807, 808, 809, 810, 811, 812, 813, 814, 815, 816, 817, 818, 819] (by decide +kernel) (by decide +kernel)
set_option maxRecDepth 20000 in
theorem gL_law_X10_becomes : GoodIn wsL_law (wsV RL 143 RX10 yX10_becomes wsX10_becomes) := goodIn_app (goodIn_of _ (by decide +kernel)) ggL_law_X10_becomes
set_option maxRecDepth 20000 in
theorem ggL_law_L_bursts : GoodIn wsL_law wsL_bursts := goodIn_ca (goodIn_r _ [535, 451, 536, 537, 538, 2, 539, 303, 492, 493, 494, 495, 456, 457, 458, 459, 460, 461, 30, 185, 186, 187, 245, 246, 247, 248, 46, 34, 249, 250, 251, 252, 16, 253, 254, 255, 243, 256, 257, 258, 15, 259, 54, 260, 261, 262, 263, 264, 24, 236, 265, 266, 267, 48, 268, 89, 269, 270, 271, 50, 272, 95, 273, 274, 275, 276, 277, 278, 279, 280, 237, 281, 282, 283, 284, 90, 285, 286, 287, 288, 132, 129, 133, 289, 128, 130, 191, 192, 193, 290, 291, 292, 33, 293, 74, 75, 294, 295, 77, 76, 296, 111, 112, 113, 297, 298, 299, 300, 44, 301, 302, 45, 220, 304, 305, 306, 307, 308, 309, 39, 310, 311, 312, 313, 38, 244, 314, 315, 316, 37, 317, 83, 84, 318, 319, 320, 321, 322, 323, 324, 325, 326, 85, 82, 849, 850, 851, 852, 853, 854, 855, 856, 857, 776, 777, 778, 779, 780, 781, 782, 783, 784, 785, 786, 787, 788, 789, 790, 837, 838, 839, 840, 841, 842, 843, 820, 821, 822, 823, 835, 836, 827, 828, 829, 830, 831, 832, 833, 834] (by decide +kernel) (by decide +kernel)) (goodIn_sub (fun _ h => List.mem_append_right _ h) (by decide +kernel))
set_option maxRecDepth 20000 in
theorem gL_law_L_bursts : GoodIn wsL_law (va_wsS RL 144 yL_bursts wsL_bursts) := goodIn_app (goodIn_of _ (by decide +kernel)) ggL_law_L_bursts
set_option maxRecDepth 20000 in
theorem ggL_law_X10_bursts : GoodIn wsL_law wsX10_bursts := goodIn_r _ [543, 164, 146, 160, 500, 501, 502, 5, 503, 504, 505, 506, 507, 338, 163, 162, 165, 167, 508, 159, 157, 166, 342, 343, 344, 345, 153, 346, 347, 348, 349, 145, 350, 351, 352, 353, 142, 161, 149, 150, 152, 151, 354, 355, 356, 198, 199, 200, 509, 510, 511, 512, 513, 514, 515, 516, 517, 518, 519, 520, 521, 522, 523, 524, 525, 526, 527, 528, 156, 529, 530, 531, 532, 158, 466, 467, 468, 469, 204, 205, 206, 207, 208, 791, 792, 793, 794, 795, 796, 797, 798, 799, 800, 801, 802, 803, 804, 805, 806, 807, 808, 809, 810, 811, 812, 813, 814, 815, 816, 817, 818, 819] (by decide +kernel) (by decide +kernel)
set_option maxRecDepth 20000 in
theorem gL_law_X10_bursts : GoodIn wsL_law (wsV RL 146 RX10 yX10_bursts wsX10_bursts) := goodIn_app (goodIn_of _ (by decide +kernel)) ggL_law_X10_bursts
set_option maxRecDepth 20000 in
theorem ggL_law_L_fires : GoodIn wsL_law wsL_fires := goodIn_ca (goodIn_r _ [546, 451, 547, 548, 549, 2, 550, 304, 492, 493, 494, 495, 456, 457, 458, 459, 460, 461, 30, 185, 186, 187, 245, 246, 247, 248, 46, 34, 249, 250, 251, 252, 16, 253, 254, 255, 243, 256, 257, 258, 15, 259, 54, 260, 261, 262, 263, 264, 24, 236, 265, 266, 267, 48, 268, 89, 269, 270, 271, 50, 272, 95, 273, 274, 275, 276, 277, 278, 279, 280, 237, 281, 282, 283, 284, 90, 285, 286, 287, 288, 132, 129, 133, 289, 128, 130, 191, 192, 193, 290, 291, 292, 33, 293, 74, 75, 294, 295, 77, 76, 296, 111, 112, 113, 297, 298, 299, 300, 44, 301, 302, 45, 303, 220, 305, 306, 307, 308, 309, 39, 310, 311, 312, 313, 38, 244, 314, 315, 316, 37, 317, 83, 84, 318, 319, 320, 321, 322, 323, 324, 325, 326, 85, 82, 849, 850, 851, 852, 853, 854, 855, 856, 857, 776, 777, 778, 779, 780, 781, 782, 783, 784, 785, 786, 787, 788, 789, 790, 837, 838, 839, 840, 841, 842, 843, 820, 821, 822, 823, 835, 836, 827, 828, 829, 830, 831, 832, 833, 834] (by decide +kernel) (by decide +kernel)) (goodIn_sub (fun _ h => List.mem_append_right _ h) (by decide +kernel))
set_option maxRecDepth 20000 in
theorem gL_law_L_fires : GoodIn wsL_law (va_wsS RL 147 yL_fires wsL_fires) := goodIn_app (goodIn_of _ (by decide +kernel)) ggL_law_L_fires
set_option maxRecDepth 20000 in
theorem ggL_law_X10_fires : GoodIn wsL_law wsX10_fires := goodIn_r _ [554, 164, 500, 501, 502, 5, 503, 504, 505, 506, 507, 338, 163, 162, 165, 167, 508, 159, 157, 146, 160, 166, 342, 343, 344, 345, 153, 346, 347, 348, 349, 145, 350, 351, 352, 353, 142, 161, 149, 150, 152, 151, 354, 355, 356, 198, 199, 200, 509, 510, 511, 512, 513, 514, 515, 516, 517, 518, 519, 520, 521, 522, 523, 524, 525, 526, 527, 528, 156, 529, 530, 531, 532, 158, 466, 467, 468, 469, 204, 205, 206, 207, 208, 791, 792, 793, 794, 795, 796, 797, 798, 799, 800, 801, 802, 803, 804, 805, 806, 807, 808, 809, 810, 811, 812, 813, 814, 815, 816, 817, 818, 819] (by decide +kernel) (by decide +kernel)
set_option maxRecDepth 20000 in
theorem gL_law_X10_fires : GoodIn wsL_law (wsV RL 149 RX10 yX10_fires wsX10_fires) := goodIn_app (goodIn_of _ (by decide +kernel)) ggL_law_X10_fires
set_option maxRecDepth 20000 in
theorem ggL_law_L_falls : GoodIn wsL_law wsL_falls := goodIn_ca (goodIn_ca (goodIn_r _ [557, 451, 176, 558, 559, 560, 2, 561, 181, 182, 456, 457, 458, 459, 460, 461, 30, 185, 186, 187, 260, 261, 262, 263, 264, 253, 24, 236, 265, 266, 267, 48, 268, 89, 269, 270, 271, 50, 272, 95, 277, 278, 279, 280, 237, 281, 282, 283, 284, 90, 562, 563, 564, 273, 274, 275, 276, 776, 777, 778, 779, 780, 781, 782, 783, 784, 785, 786, 787, 788, 789, 790, 849, 850, 851, 852, 853, 854, 855, 856, 857, 822, 823, 835, 836, 837, 838, 839, 840, 841, 842, 843] (by decide +kernel) (by decide +kernel)) (goodIn_sub (fun _ h => List.mem_append_left _ (List.mem_append_left _ (List.mem_append_right _ h))) (by decide +kernel))) (goodIn_sub (fun _ h => List.mem_append_right _ h) (by decide +kernel))
set_option maxRecDepth 20000 in
theorem gL_law_L_falls : GoodIn wsL_law (va_wsS RL 150 yL_falls wsL_falls) := goodIn_app (goodIn_of _ (by decide +kernel)) ggL_law_L_falls
set_option maxRecDepth 20000 in
theorem ggL_law_X10_falls : GoodIn wsL_law wsX10_falls := goodIn_r _ [568, 466, 467, 468, 5, 469, 338, 162, 198, 199, 200, 204, 205, 206, 207, 208, 350, 351, 352, 353, 142, 161, 160, 149, 150, 152, 151, 354, 355, 356, 791, 792, 793, 794, 795, 796, 797, 798, 799, 800, 801, 802, 803, 804, 805, 806, 807, 808, 809, 810, 811, 812, 813, 814, 815, 816, 817, 818, 819] (by decide +kernel) (by decide +kernel)
set_option maxRecDepth 20000 in
theorem gL_law_X10_falls : GoodIn wsL_law (wsV RL 152 RX10 yX10_falls wsX10_falls) := goodIn_app (goodIn_of _ (by decide +kernel)) ggL_law_X10_falls
set_option maxRecDepth 20000 in
theorem ggL_law_L_fallsBySteps : GoodIn wsL_law wsL_fallsBySteps := goodIn_ca (goodIn_ca (goodIn_r _ [571, 451, 176, 572, 573, 574, 2, 575, 181, 182, 28, 253, 264, 576, 577, 578, 24, 579, 580, 456, 457, 458, 459, 460, 461, 30, 185, 186, 187, 581, 582, 583, 27, 584, 67, 585, 586, 587, 588, 589, 115, 116, 66, 117, 118, 119, 120, 121, 122, 590, 266, 267, 48, 268, 89, 591, 282, 283, 284, 90, 592, 593, 594, 595, 596, 597, 598, 124, 125, 126, 127, 128, 129, 130, 131, 132, 133, 599, 135, 136, 137, 562, 563, 564, 273, 274, 275, 276, 776, 777, 778, 779, 780, 781, 782, 783, 784, 785, 786, 787, 788, 789, 790, 849, 850, 851, 852, 853, 854, 855, 856, 857, 824, 825, 826, 844, 845, 846, 847, 848, 837, 838, 839, 840, 841, 842, 843, 835, 836, 822, 823] (by decide +kernel) (by decide +kernel)) (goodIn_sub (fun _ h => List.mem_append_left _ (List.mem_append_left _ (List.mem_append_right _ h))) (by decide +kernel))) (goodIn_sub (fun _ h => List.mem_append_right _ h) (by decide +kernel))
set_option maxRecDepth 20000 in
theorem gL_law_L_fallsBySteps : GoodIn wsL_law (va_wsS RL 153 yL_fallsBySteps wsL_fallsBySteps) := goodIn_app (goodIn_of _ (by decide +kernel)) ggL_law_L_fallsBySteps
set_option maxRecDepth 20000 in
theorem ggL_law_X10_fallsBySteps : GoodIn wsL_law wsX10_fallsBySteps := goodIn_r _ [603, 604, 566, 567, 5, 568, 466, 467, 468, 469, 338, 162, 198, 199, 200, 204, 205, 206, 207, 208, 350, 351, 352, 353, 142, 161, 160, 149, 150, 152, 151, 354, 355, 356, 791, 792, 793, 794, 795, 796, 797, 798, 799, 800, 801, 802, 803, 804, 805, 806, 807, 808, 809, 810, 811, 812, 813, 814, 815, 816, 817, 818, 819] (by decide +kernel) (by decide +kernel)
set_option maxRecDepth 20000 in
theorem gL_law_X10_fallsBySteps : GoodIn wsL_law (wsV RL 155 RX10 yX10_fallsBySteps wsX10_fallsBySteps) := goodIn_app (goodIn_of _ (by decide +kernel)) ggL_law_X10_fallsBySteps
set_option maxRecDepth 20000 in
theorem ggL_law_L_burstAt : GoodIn wsL_law wsL_burstAt := goodIn_ca (goodIn_ca (goodIn_r _ [607, 451, 176, 608, 609, 610, 2, 611, 181, 182, 28, 253, 264, 576, 577, 612, 24, 613, 579, 580, 456, 457, 458, 459, 460, 461, 30, 185, 186, 187, 581, 582, 583, 27, 584, 67, 585, 586, 587, 588, 589, 115, 116, 66, 117, 118, 119, 120, 121, 122, 590, 266, 267, 48, 268, 89, 591, 282, 283, 284, 90, 592, 593, 594, 595, 596, 597, 598, 124, 125, 126, 127, 128, 129, 130, 131, 132, 133, 599, 135, 136, 137, 776, 777, 778, 779, 780, 781, 782, 783, 784, 785, 786, 787, 788, 789, 790, 849, 850, 851, 852, 853, 854, 855, 856, 857, 824, 825, 826, 844, 845, 846, 847, 848, 837, 838, 839, 840, 841, 842, 843, 835, 836, 822, 823] (by decide +kernel) (by decide +kernel)) (goodIn_sub (fun _ h => List.mem_append_left _ (List.mem_append_left _ (List.mem_append_right _ h))) (by decide +kernel))) (goodIn_sub (fun _ h => List.mem_append_right _ h) (by decide +kernel))
set_option maxRecDepth 20000 in
theorem gL_law_L_burstAt : GoodIn wsL_law (va_wsS RL 156 yL_burstAt wsL_burstAt) := goodIn_app (goodIn_of _ (by decide +kernel)) ggL_law_L_burstAt
set_option maxRecDepth 20000 in
theorem ggL_law_X10_burstAt : GoodIn wsL_law wsX10_burstAt := goodIn_r _ [617, 148, 160, 466, 467, 468, 5, 469, 338, 162, 198, 199, 200, 204, 205, 206, 207, 208, 350, 351, 352, 353, 142, 161, 149, 150, 152, 151, 791, 792, 793, 794, 795, 796, 797, 798, 799, 800, 801, 802, 803, 804, 805, 806, 807, 808, 809, 810, 811, 812, 813, 814, 815, 816, 817, 818, 819] (by decide +kernel) (by decide +kernel)
set_option maxRecDepth 20000 in
theorem gL_law_X10_burstAt : GoodIn wsL_law (wsV RL 158 RX10 yX10_burstAt wsX10_burstAt) := goodIn_app (goodIn_of _ (by decide +kernel)) ggL_law_X10_burstAt
set_option maxRecDepth 20000 in
theorem ggL_law_L_danger : GoodIn wsL_law wsL_danger := goodIn_ca (goodIn_r _ [620, 451, 621, 622, 623, 2, 624, 255, 492, 493, 494, 495, 456, 457, 458, 459, 460, 461, 30, 185, 186, 187, 245, 246, 247, 248, 46, 34, 249, 250, 251, 252, 16, 253, 254, 243, 256, 257, 258, 15, 259, 54, 260, 261, 262, 263, 264, 24, 236, 265, 266, 267, 48, 268, 89, 269, 270, 271, 50, 272, 95, 273, 274, 275, 276, 277, 278, 279, 280, 237, 281, 282, 283, 284, 90, 285, 286, 287, 288, 132, 129, 133, 289, 128, 130, 191, 192, 193, 290, 291, 292, 33, 293, 74, 75, 294, 295, 77, 76, 296, 111, 112, 113, 297, 298, 299, 300, 44, 301, 302, 45, 303, 220, 304, 305, 306, 307, 308, 309, 39, 310, 311, 312, 313, 38, 244, 314, 315, 316, 37, 317, 83, 84, 318, 319, 320, 321, 322, 323, 324, 325, 326, 85, 82, 849, 850, 851, 852, 853, 854, 855, 856, 857, 776, 777, 778, 779, 780, 781, 782, 783, 784, 785, 786, 787, 788, 789, 790, 837, 838, 839, 840, 841, 842, 843, 820, 821, 822, 823, 835, 836, 827, 828, 829, 830, 831, 832, 833, 834] (by decide +kernel) (by decide +kernel)) (goodIn_sub (fun _ h => List.mem_append_right _ h) (by decide +kernel))
set_option maxRecDepth 20000 in
theorem gL_law_L_danger : GoodIn wsL_law (va_wsS RL 159 yL_danger wsL_danger) := goodIn_app (goodIn_of _ (by decide +kernel)) ggL_law_L_danger
set_option maxRecDepth 20000 in
theorem ggL_law_X10_danger : GoodIn wsL_law wsX10_danger := goodIn_r _ [628, 466, 467, 468, 5, 469, 338, 162, 198, 199, 200, 204, 205, 206, 207, 208, 346, 347, 348, 349, 145, 160, 350, 351, 352, 353, 142, 161, 149, 150, 152, 151, 354, 355, 356, 791, 792, 793, 794, 795, 796, 797, 798, 799, 800, 801, 802, 803, 804, 805, 806, 807, 808, 809, 810, 811, 812, 813, 814, 815, 816, 817, 818, 819] (by decide +kernel) (by decide +kernel)
set_option maxRecDepth 20000 in
theorem gL_law_X10_danger : GoodIn wsL_law (wsV RL 161 RX10 yX10_danger wsX10_danger) := goodIn_app (goodIn_of _ (by decide +kernel)) ggL_law_X10_danger
set_option maxRecDepth 20000 in
theorem ggL_law_X9_cues : GoodIn wsL_law wsX9_cues := goodIn_r _ [632, 43, 776, 777, 778, 779, 780, 781, 782, 783, 784, 785, 786, 787, 788, 789, 790] (by decide +kernel) (by decide +kernel)
set_option maxRecDepth 20000 in
theorem gL_law_X9_cues : GoodIn wsL_law (wsV RL 162 RX9 yX9_cues wsX9_cues) := goodIn_app (goodIn_of _ (by decide +kernel)) ggL_law_X9_cues
set_option maxRecDepth 20000 in
theorem ggL_law_X10_cues : GoodIn wsL_law wsX10_cues := goodIn_r _ [636, 470, 471, 472, 5, 473, 338, 162, 391, 392, 393, 394, 208, 791, 792, 793, 794, 795, 796, 797, 798, 799, 800, 801, 802, 803, 804, 805, 806, 807, 808, 809, 810, 811, 812, 813, 814, 815, 816, 817, 818, 819] (by decide +kernel) (by decide +kernel)
set_option maxRecDepth 20000 in
theorem gL_law_X10_cues : GoodIn wsL_law (wsV RL 165 RX10 yX10_cues wsX10_cues) := goodIn_app (goodIn_of _ (by decide +kernel)) ggL_law_X10_cues
set_option maxRecDepth 20000 in
theorem ggL_law_X9_fired : GoodIn wsL_law wsX9_fired := goodIn_r _ [640, 44, 245, 246, 247, 2, 248, 46, 34, 30, 249, 250, 251, 252, 16, 253, 254, 255, 243, 256, 257, 258, 15, 259, 54, 260, 261, 262, 263, 264, 24, 236, 265, 266, 267, 48, 268, 89, 269, 270, 271, 50, 272, 95, 273, 274, 275, 276, 277, 278, 279, 280, 237, 281, 282, 283, 284, 90, 285, 286, 287, 288, 132, 129, 133, 289, 128, 130, 191, 192, 193, 290, 291, 292, 33, 293, 74, 75, 294, 295, 77, 76, 296, 111, 112, 113, 297, 298, 299, 300, 301, 302, 45, 303, 220, 304, 305, 306, 307, 308, 309, 39, 310, 311, 312, 313, 38, 244, 314, 315, 316, 37, 317, 83, 84, 318, 319, 320, 321, 322, 323, 324, 325, 326, 85, 82, 776, 777, 778, 779, 780, 781, 782, 783, 784, 785, 786, 787, 788, 789, 790, 849, 850, 851, 852, 853, 854, 855, 856, 857, 837, 838, 839, 840, 841, 842, 843, 820, 821, 822, 823, 835, 836, 827, 828, 829, 830, 831, 832, 833, 834] (by decide +kernel) (by decide +kernel)
set_option maxRecDepth 20000 in
theorem gL_law_X9_fired : GoodIn wsL_law (wsV RL 166 RX9 yX9_fired wsX9_fired) := goodIn_app (goodIn_of _ (by decide +kernel)) ggL_law_X9_fired
set_option maxRecDepth 20000 in
theorem ggL_law_X10_fired : GoodIn wsL_law wsX10_fired := goodIn_r _ [644, 508, 504, 505, 506, 5, 507, 338, 163, 162, 165, 167, 164, 159, 157, 146, 160, 166, 342, 343, 344, 345, 153, 346, 347, 348, 349, 145, 350, 351, 352, 353, 142, 161, 149, 150, 152, 151, 354, 355, 356, 198, 199, 200, 509, 510, 511, 512, 513, 514, 515, 516, 517, 518, 519, 520, 521, 522, 523, 524, 525, 526, 527, 528, 156, 529, 530, 531, 532, 158, 391, 392, 393, 394, 208, 791, 792, 793, 794, 795, 796, 797, 798, 799, 800, 801, 802, 803, 804, 805, 806, 807, 808, 809, 810, 811, 812, 813, 814, 815, 816, 817, 818, 819] (by decide +kernel) (by decide +kernel)
set_option maxRecDepth 20000 in
theorem gL_law_X10_fired : GoodIn wsL_law (wsV RL 169 RX10 yX10_fired wsX10_fired) := goodIn_app (goodIn_of _ (by decide +kernel)) ggL_law_X10_fired
set_option maxRecDepth 20000 in
theorem ggL_law_L_firing : GoodIn wsL_law wsL_firing := goodIn_ca (goodIn_r _ [647, 451, 648, 649, 650, 2, 651, 460, 461, 44, 39, 244, 245, 246, 247, 248, 46, 34, 30, 249, 250, 251, 252, 16, 253, 254, 255, 243, 256, 257, 258, 15, 259, 54, 260, 261, 262, 263, 264, 24, 236, 265, 266, 267, 48, 268, 89, 269, 270, 271, 50, 272, 95, 273, 274, 275, 276, 277, 278, 279, 280, 237, 281, 282, 283, 284, 90, 285, 286, 287, 288, 132, 129, 133, 289, 128, 130, 191, 192, 193, 290, 291, 292, 33, 293, 74, 75, 294, 295, 77, 76, 296, 111, 112, 113, 297, 298, 299, 300, 301, 302, 45, 303, 220, 304, 305, 306, 307, 308, 309, 310, 311, 312, 313, 38, 314, 315, 316, 37, 317, 83, 84, 318, 319, 320, 321, 322, 323, 324, 325, 326, 85, 82, 776, 777, 778, 779, 780, 781, 782, 783, 784, 785, 786, 787, 788, 789, 790, 849, 850, 851, 852, 853, 854, 855, 856, 857, 837, 838, 839, 840, 841, 842, 843, 820, 821, 822, 823, 835, 836, 827, 828, 829, 830, 831, 832, 833, 834] (by decide +kernel) (by decide +kernel)) (goodIn_sub (fun _ h => List.mem_append_right _ h) (by decide +kernel))
set_option maxRecDepth 20000 in
theorem gL_law_L_firing : GoodIn wsL_law (va_wsS RL 170 yL_firing wsL_firing) := goodIn_app (goodIn_of _ (by decide +kernel)) ggL_law_L_firing
set_option maxRecDepth 20000 in
theorem ggL_law_X10_firing : GoodIn wsL_law wsX10_firing := goodIn_r _ [655, 508, 166, 504, 505, 506, 5, 507, 338, 163, 162, 165, 167, 164, 159, 157, 146, 160, 342, 343, 344, 345, 153, 346, 347, 348, 349, 145, 350, 351, 352, 353, 142, 161, 149, 150, 152, 151, 354, 355, 356, 198, 199, 200, 509, 510, 511, 512, 513, 514, 515, 516, 517, 518, 519, 520, 521, 522, 523, 524, 525, 526, 527, 528, 156, 529, 530, 531, 532, 158, 204, 205, 206, 207, 208, 791, 792, 793, 794, 795, 796, 797, 798, 799, 800, 801, 802, 803, 804, 805, 806, 807, 808, 809, 810, 811, 812, 813, 814, 815, 816, 817, 818, 819] (by decide +kernel) (by decide +kernel)
set_option maxRecDepth 20000 in
theorem gL_law_X10_firing : GoodIn wsL_law (wsV RL 172 RX10 yX10_firing wsX10_firing) := goodIn_app (goodIn_of _ (by decide +kernel)) ggL_law_X10_firing
set_option maxRecDepth 20000 in
theorem ggL_law_X9_closed : GoodIn wsL_law wsX9_closed := goodIn_r _ [659, 34, 660, 245, 246, 247, 2, 248, 46, 30, 249, 250, 251, 252, 16, 253, 254, 255, 243, 256, 257, 258, 15, 259, 54, 260, 261, 262, 263, 264, 24, 236, 265, 266, 267, 48, 268, 89, 269, 270, 271, 50, 272, 95, 273, 274, 275, 276, 277, 278, 279, 280, 237, 281, 282, 283, 284, 90, 285, 286, 287, 288, 132, 129, 133, 289, 128, 130, 191, 192, 193, 290, 291, 292, 33, 293, 74, 75, 294, 295, 77, 76, 296, 111, 112, 113, 297, 298, 299, 300, 44, 301, 302, 45, 303, 220, 304, 305, 306, 307, 308, 309, 39, 310, 311, 312, 313, 38, 244, 314, 315, 316, 37, 317, 83, 84, 318, 319, 320, 321, 322, 323, 324, 325, 326, 85, 82, 776, 777, 778, 779, 780, 781, 782, 783, 784, 785, 786, 787, 788, 789, 790, 827, 828, 829, 830, 849, 850, 851, 852, 853, 854, 855, 856, 857, 837, 838, 839, 840, 841, 842, 843, 820, 821, 822, 823, 835, 836, 831, 832, 833, 834] (by decide +kernel) (by decide +kernel)
set_option maxRecDepth 20000 in
theorem gL_law_X9_closed : GoodIn wsL_law (wsV RL 173 RX9 yX9_closed wsX9_closed) := goodIn_app (goodIn_of _ (by decide +kernel)) ggL_law_X9_closed
set_option maxRecDepth 20000 in
theorem ggL_law_X10_closed : GoodIn wsL_law wsX10_closed := goodIn_r _ [664, 504, 505, 506, 5, 507, 338, 163, 162, 165, 167, 508, 164, 159, 157, 146, 160, 166, 342, 343, 344, 345, 153, 346, 347, 348, 349, 145, 350, 351, 352, 353, 142, 161, 149, 150, 152, 151, 354, 355, 356, 198, 199, 200, 509, 510, 511, 512, 513, 514, 515, 516, 517, 518, 519, 520, 521, 522, 523, 524, 525, 526, 527, 528, 156, 529, 530, 531, 532, 158, 391, 392, 393, 394, 208, 791, 792, 793, 794, 795, 796, 797, 798, 799, 800, 801, 802, 803, 804, 805, 806, 807, 808, 809, 810, 811, 812, 813, 814, 815, 816, 817, 818, 819] (by decide +kernel) (by decide +kernel)
set_option maxRecDepth 20000 in
theorem gL_law_X10_closed : GoodIn wsL_law (wsV RL 176 RX10 yX10_closed wsX10_closed) := goodIn_app (goodIn_of _ (by decide +kernel)) ggL_law_X10_closed
set_option maxRecDepth 20000 in
theorem ggL_law_L_kill : GoodIn wsL_law wsL_kill := goodIn_ca (goodIn_r _ [667, 176, 668, 669, 670, 2, 671, 181, 182, 38, 672, 46, 185, 186, 187, 776, 777, 778, 779, 780, 781, 782, 783, 784, 785, 786, 787, 788, 789, 790, 831, 832, 833, 834] (by decide +kernel) (by decide +kernel)) (goodIn_sub (fun _ h => List.mem_append_left _ (List.mem_append_left _ (List.mem_append_right _ h))) (by decide +kernel))
set_option maxRecDepth 20000 in
theorem gL_law_L_kill : GoodIn wsL_law (va_wsS RL 177 yL_kill wsL_kill) := goodIn_app (goodIn_of _ (by decide +kernel)) ggL_law_L_kill
set_option maxRecDepth 20000 in
theorem ggL_law_X10_kill : GoodIn wsL_law wsX10_kill := goodIn_r _ [676, 156, 677, 678, 5, 679, 198, 199, 200, 204, 205, 206, 207, 208, 791, 792, 793, 794, 795, 796, 797, 798, 799, 800, 801, 802, 803, 804, 805, 806, 807, 808, 809, 810, 811, 812, 813, 814, 815, 816, 817, 818, 819] (by decide +kernel) (by decide +kernel)
set_option maxRecDepth 20000 in
theorem gL_law_X10_kill : GoodIn wsL_law (wsV RL 179 RX10 yX10_kill wsX10_kill) := goodIn_app (goodIn_of _ (by decide +kernel)) ggL_law_X10_kill
set_option maxRecDepth 20000 in
theorem ggL_law_L_setGap : GoodIn wsL_law wsL_setGap := goodIn_ca (goodIn_r _ [682, 176, 683, 684, 685, 2, 686, 181, 182, 38, 687, 46, 185, 186, 187, 776, 777, 778, 779, 780, 781, 782, 783, 784, 785, 786, 787, 788, 789, 790, 831, 832, 833, 834] (by decide +kernel) (by decide +kernel)) (goodIn_sub (fun _ h => List.mem_append_left _ (List.mem_append_left _ (List.mem_append_right _ h))) (by decide +kernel))
set_option maxRecDepth 20000 in
theorem gL_law_L_setGap : GoodIn wsL_law (va_wsS RL 180 yL_setGap wsL_setGap) := goodIn_app (goodIn_of _ (by decide +kernel)) ggL_law_L_setGap
set_option maxRecDepth 20000 in
theorem ggL_law_X10_setGap : GoodIn wsL_law wsX10_setGap := goodIn_r _ [691, 158, 198, 199, 5, 200, 204, 205, 206, 207, 208, 791, 792, 793, 794, 795, 796, 797, 798, 799, 800, 801, 802, 803, 804, 805, 806, 807, 808, 809, 810, 811, 812, 813, 814, 815, 816, 817, 818, 819] (by decide +kernel) (by decide +kernel)
set_option maxRecDepth 20000 in
theorem gL_law_X10_setGap : GoodIn wsL_law (wsV RL 182 RX10 yX10_setGap wsX10_setGap) := goodIn_app (goodIn_of _ (by decide +kernel)) ggL_law_X10_setGap
set_option maxRecDepth 20000 in
theorem ggL_law_L_channelOf : GoodIn wsL_law wsL_channelOf := goodIn_ca (goodIn_r _ [694, 451, 695, 696, 697, 2, 698, 305, 492, 493, 494, 495, 456, 457, 458, 459, 460, 461, 30, 185, 186, 187, 245, 246, 247, 248, 46, 34, 249, 250, 251, 252, 16, 253, 254, 255, 243, 256, 257, 258, 15, 259, 54, 260, 261, 262, 263, 264, 24, 236, 265, 266, 267, 48, 268, 89, 269, 270, 271, 50, 272, 95, 273, 274, 275, 276, 277, 278, 279, 280, 237, 281, 282, 283, 284, 90, 285, 286, 287, 288, 132, 129, 133, 289, 128, 130, 191, 192, 193, 290, 291, 292, 33, 293, 74, 75, 294, 295, 77, 76, 296, 111, 112, 113, 297, 298, 299, 300, 44, 301, 302, 45, 303, 220, 304, 306, 307, 308, 309, 39, 310, 311, 312, 313, 38, 244, 314, 315, 316, 37, 317, 83, 84, 318, 319, 320, 321, 322, 323, 324, 325, 326, 85, 82, 849, 850, 851, 852, 853, 854, 855, 856, 857, 776, 777, 778, 779, 780, 781, 782, 783, 784, 785, 786, 787, 788, 789, 790, 837, 838, 839, 840, 841, 842, 843, 820, 821, 822, 823, 835, 836, 827, 828, 829, 830, 831, 832, 833, 834] (by decide +kernel) (by decide +kernel)) (goodIn_sub (fun _ h => List.mem_append_right _ h) (by decide +kernel))
set_option maxRecDepth 20000 in
theorem gL_law_L_channelOf : GoodIn wsL_law (va_wsS RL 183 yL_channelOf wsL_channelOf) := goodIn_app (goodIn_of _ (by decide +kernel)) ggL_law_L_channelOf
set_option maxRecDepth 20000 in
theorem ggL_law_X10_channelOf : GoodIn wsL_law wsX10_channelOf := goodIn_r _ [702, 165, 500, 501, 502, 5, 503, 504, 505, 506, 507, 338, 163, 162, 167, 508, 164, 159, 157, 146, 160, 166, 342, 343, 344, 345, 153, 346, 347, 348, 349, 145, 350, 351, 352, 353, 142, 161, 149, 150, 152, 151, 354, 355, 356, 198, 199, 200, 509, 510, 511, 512, 513, 514, 515, 516, 517, 518, 519, 520, 521, 522, 523, 524, 525, 526, 527, 528, 156, 529, 530, 531, 532, 158, 466, 467, 468, 469, 204, 205, 206, 207, 208, 791, 792, 793, 794, 795, 796, 797, 798, 799, 800, 801, 802, 803, 804, 805, 806, 807, 808, 809, 810, 811, 812, 813, 814, 815, 816, 817, 818, 819] (by decide +kernel) (by decide +kernel)
set_option maxRecDepth 20000 in
theorem gL_law_X10_channelOf : GoodIn wsL_law (wsV RL 185 RX10 yX10_channelOf wsX10_channelOf) := goodIn_app (goodIn_of _ (by decide +kernel)) ggL_law_X10_channelOf
set_option maxRecDepth 20000 in
theorem ggL_law_L_cueOn : GoodIn wsL_law wsL_cueOn := goodIn_ca (goodIn_r _ [705, 176, 706, 707, 708, 2, 709, 181, 182, 38, 710, 185, 186, 187, 245, 246, 247, 248, 46, 34, 30, 249, 250, 251, 252, 16, 253, 254, 255, 243, 256, 257, 258, 15, 259, 54, 260, 261, 262, 263, 264, 24, 236, 265, 266, 267, 48, 268, 89, 269, 270, 271, 50, 272, 95, 273, 274, 275, 276, 277, 278, 279, 280, 237, 281, 282, 283, 284, 90, 285, 286, 287, 288, 132, 129, 133, 289, 128, 130, 191, 192, 193, 290, 291, 292, 33, 293, 74, 75, 294, 295, 77, 76, 296, 111, 112, 113, 297, 298, 299, 300, 44, 301, 302, 45, 303, 220, 304, 305, 306, 307, 308, 309, 39, 310, 311, 312, 313, 244, 314, 315, 316, 37, 317, 83, 84, 318, 319, 320, 321, 322, 323, 324, 325, 326, 85, 82, 776, 777, 778, 779, 780, 781, 782, 783, 784, 785, 786, 787, 788, 789, 790, 831, 832, 833, 834, 849, 850, 851, 852, 853, 854, 855, 856, 857, 837, 838, 839, 840, 841, 842, 843, 820, 821, 822, 823, 835, 836, 827, 828, 829, 830] (by decide +kernel) (by decide +kernel)) (goodIn_sub (fun _ h => List.mem_append_left _ (List.mem_append_left _ (List.mem_append_right _ h))) (by decide +kernel))
set_option maxRecDepth 20000 in
theorem gL_law_L_cueOn : GoodIn wsL_law (va_wsS RL 186 yL_cueOn wsL_cueOn) := goodIn_app (goodIn_of _ (by decide +kernel)) ggL_law_L_cueOn
set_option maxRecDepth 20000 in
theorem ggL_law_X10_cueOn : GoodIn wsL_law wsX10_cueOn := goodIn_r _ [714, 167, 504, 505, 506, 5, 507, 338, 163, 162, 165, 508, 164, 159, 157, 146, 160, 166, 342, 343, 344, 345, 153, 346, 347, 348, 349, 145, 350, 351, 352, 353, 142, 161, 149, 150, 152, 151, 354, 355, 356, 198, 199, 200, 509, 510, 511, 512, 513, 514, 515, 516, 517, 518, 519, 520, 521, 522, 523, 524, 525, 526, 527, 528, 156, 529, 530, 531, 532, 158, 677, 678, 679, 204, 205, 206, 207, 208, 791, 792, 793, 794, 795, 796, 797, 798, 799, 800, 801, 802, 803, 804, 805, 806, 807, 808, 809, 810, 811, 812, 813, 814, 815, 816, 817, 818, 819] (by decide +kernel) (by decide +kernel)
set_option maxRecDepth 20000 in
theorem gL_law_X10_cueOn : GoodIn wsL_law (wsV RL 188 RX10 yX10_cueOn wsX10_cueOn) := goodIn_app (goodIn_of _ (by decide +kernel)) ggL_law_X10_cueOn
set_option maxRecDepth 20000 in
theorem ggL_law_X9_spares : GoodIn wsL_law wsX9_spares := goodIn_r _ [718, 38, 245, 246, 247, 2, 248, 46, 34, 30, 249, 250, 251, 252, 16, 253, 254, 255, 243, 256, 257, 258, 15, 259, 54, 260, 261, 262, 263, 264, 24, 236, 265, 266, 267, 48, 268, 89, 269, 270, 271, 50, 272, 95, 273, 274, 275, 276, 277, 278, 279, 280, 237, 281, 282, 283, 284, 90, 285, 286, 287, 288, 132, 129, 133, 289, 128, 130, 191, 192, 193, 290, 291, 292, 33, 293, 74, 75, 294, 295, 77, 76, 296, 111, 112, 113, 297, 298, 299, 300, 44, 301, 302, 45, 303, 220, 304, 305, 306, 307, 308, 309, 39, 310, 311, 312, 313, 244, 314, 315, 316, 37, 317, 83, 84, 318, 319, 320, 321, 322, 323, 324, 325, 326, 85, 82, 719, 720, 721, 722, 776, 777, 778, 779, 780, 781, 782, 783, 784, 785, 786, 787, 788, 789, 790, 849, 850, 851, 852, 853, 854, 855, 856, 857, 837, 838, 839, 840, 841, 842, 843, 820, 821, 822, 823, 835, 836, 827, 828, 829, 830, 831, 832, 833, 834] (by decide +kernel) (by decide +kernel)
set_option maxRecDepth 20000 in
theorem gL_law_X9_spares : GoodIn wsL_law (wsV RL 189 RX9 yX9_spares wsX9_spares) := goodIn_app (goodIn_of _ (by decide +kernel)) ggL_law_X9_spares
set_option maxRecDepth 20000 in
theorem ggL_law_X10_spares : GoodIn wsL_law wsX10_spares := goodIn_r _ [726, 167, 504, 505, 506, 5, 507, 338, 163, 162, 165, 508, 164, 159, 157, 146, 160, 166, 342, 343, 344, 345, 153, 346, 347, 348, 349, 145, 350, 351, 352, 353, 142, 161, 149, 150, 152, 151, 354, 355, 356, 198, 199, 200, 509, 510, 511, 512, 513, 514, 515, 516, 517, 518, 519, 520, 521, 522, 523, 524, 525, 526, 527, 528, 156, 529, 530, 531, 532, 158, 391, 392, 393, 394, 208, 791, 792, 793, 794, 795, 796, 797, 798, 799, 800, 801, 802, 803, 804, 805, 806, 807, 808, 809, 810, 811, 812, 813, 814, 815, 816, 817, 818, 819] (by decide +kernel) (by decide +kernel)
set_option maxRecDepth 20000 in
theorem gL_law_X10_spares : GoodIn wsL_law (wsV RL 192 RX10 yX10_spares wsX10_spares) := goodIn_app (goodIn_of _ (by decide +kernel)) ggL_law_X10_spares
set_option maxRecDepth 20000 in
theorem ggL_law_L_setRate : GoodIn wsL_law wsL_setRate := goodIn_ca (goodIn_r _ [729, 176, 730, 731, 732, 2, 733, 181, 182, 734, 41, 185, 186, 187, 776, 777, 778, 779, 780, 781, 782, 783, 784, 785, 786, 787, 788, 789, 790] (by decide +kernel) (by decide +kernel)) (goodIn_sub (fun _ h => List.mem_append_left _ (List.mem_append_left _ (List.mem_append_right _ h))) (by decide +kernel))
set_option maxRecDepth 20000 in
theorem gL_law_L_setRate : GoodIn wsL_law (va_wsS RL 193 yL_setRate wsL_setRate) := goodIn_app (goodIn_of _ (by decide +kernel)) ggL_law_L_setRate
set_option maxRecDepth 20000 in
theorem ggL_law_X10_setRate : GoodIn wsL_law wsX10_setRate := goodIn_r _ [738, 739, 155, 198, 199, 5, 200, 204, 205, 206, 207, 208, 791, 792, 793, 794, 795, 796, 797, 798, 799, 800, 801, 802, 803, 804, 805, 806, 807, 808, 809, 810, 811, 812, 813, 814, 815, 816, 817, 818, 819] (by decide +kernel) (by decide +kernel)
set_option maxRecDepth 20000 in
theorem gL_law_X10_setRate : GoodIn wsL_law (wsV RL 195 RX10 yX10_setRate wsX10_setRate) := goodIn_app (goodIn_of _ (by decide +kernel)) ggL_law_X10_setRate
set_option maxRecDepth 20000 in
theorem ggL_law_L_price : GoodIn wsL_law wsL_price := goodIn_ca (goodIn_r _ [742, 451, 743, 744, 745, 2, 746, 243, 492, 493, 494, 495, 456, 457, 458, 459, 460, 461, 30, 185, 186, 187, 245, 246, 247, 248, 46, 34, 249, 250, 251, 252, 16, 253, 254, 255, 256, 257, 258, 15, 259, 54, 260, 261, 262, 263, 264, 24, 236, 265, 266, 267, 48, 268, 89, 269, 270, 271, 50, 272, 95, 273, 274, 275, 276, 277, 278, 279, 280, 237, 281, 282, 283, 284, 90, 285, 286, 287, 288, 132, 129, 133, 289, 128, 130, 191, 192, 193, 290, 291, 292, 33, 293, 74, 75, 294, 295, 77, 76, 296, 111, 112, 113, 297, 298, 299, 300, 44, 301, 302, 45, 303, 220, 304, 305, 306, 307, 308, 309, 39, 310, 311, 312, 313, 38, 244, 314, 315, 316, 37, 317, 83, 84, 318, 319, 320, 321, 322, 323, 324, 325, 326, 85, 82, 747, 748, 749, 750, 41, 751, 752, 753, 754, 55, 755, 756, 757, 758, 849, 850, 851, 852, 853, 854, 855, 856, 857, 776, 777, 778, 779, 780, 781, 782, 783, 784, 785, 786, 787, 788, 789, 790, 837, 838, 839, 840, 841, 842, 843, 820, 821, 822, 823, 835, 836, 827, 828, 829, 830, 831, 832, 833, 834] (by decide +kernel) (by decide +kernel)) (goodIn_sub (fun _ h => List.mem_append_right _ h) (by decide +kernel))
set_option maxRecDepth 20000 in
theorem gL_law_L_price : GoodIn wsL_law (va_wsS RL 196 yL_price wsL_price) := goodIn_app (goodIn_of _ (by decide +kernel)) ggL_law_L_price
set_option maxRecDepth 20000 in
theorem ggL_law_X10_price : GoodIn wsL_law wsX10_price := goodIn_r _ [762, 163, 763, 500, 501, 502, 5, 503, 504, 505, 506, 507, 338, 162, 165, 167, 508, 164, 159, 157, 146, 160, 166, 342, 343, 344, 345, 153, 346, 347, 348, 349, 145, 350, 351, 352, 353, 142, 161, 149, 150, 152, 151, 354, 355, 356, 198, 199, 200, 509, 510, 511, 512, 513, 514, 515, 516, 517, 518, 519, 520, 521, 522, 523, 524, 525, 526, 527, 528, 156, 529, 530, 531, 532, 158, 466, 467, 468, 469, 204, 205, 206, 207, 208, 764, 765, 766, 767, 154, 155, 791, 792, 793, 794, 795, 796, 797, 798, 799, 800, 801, 802, 803, 804, 805, 806, 807, 808, 809, 810, 811, 812, 813, 814, 815, 816, 817, 818, 819] (by decide +kernel) (by decide +kernel)
set_option maxRecDepth 20000 in
theorem gL_law_X10_price : GoodIn wsL_law (wsV RL 198 RX10 yX10_price wsX10_price) := goodIn_app (goodIn_of _ (by decide +kernel)) ggL_law_X10_price
set_option maxRecDepth 20000 in
theorem ggL_law_X9_total : GoodIn wsL_law wsX9_total := goodIn_r _ [771, 44, 39, 245, 246, 247, 2, 248, 46, 34, 30, 249, 250, 251, 252, 16, 253, 254, 255, 243, 256, 257, 258, 15, 259, 54, 260, 261, 262, 263, 264, 24, 236, 265, 266, 267, 48, 268, 89, 269, 270, 271, 50, 272, 95, 273, 274, 275, 276, 277, 278, 279, 280, 237, 281, 282, 283, 284, 90, 285, 286, 287, 288, 132, 129, 133, 289, 128, 130, 191, 192, 193, 290, 291, 292, 33, 293, 74, 75, 294, 295, 77, 76, 296, 111, 112, 113, 297, 298, 299, 300, 301, 302, 45, 303, 220, 304, 305, 306, 307, 308, 309, 310, 311, 312, 313, 38, 244, 314, 315, 316, 37, 317, 83, 84, 318, 319, 320, 321, 322, 323, 324, 325, 326, 85, 82, 747, 748, 749, 750, 41, 751, 752, 753, 754, 55, 755, 756, 757, 758, 776, 777, 778, 779, 780, 781, 782, 783, 784, 785, 786, 787, 788, 789, 790, 849, 850, 851, 852, 853, 854, 855, 856, 857, 837, 838, 839, 840, 841, 842, 843, 820, 821, 822, 823, 835, 836, 827, 828, 829, 830, 831, 832, 833, 834] (by decide +kernel) (by decide +kernel)
set_option maxRecDepth 20000 in
theorem gL_law_X9_total : GoodIn wsL_law (wsV RL 199 RX9 yX9_total wsX9_total) := goodIn_app (goodIn_of _ (by decide +kernel)) ggL_law_X9_total
set_option maxRecDepth 20000 in
theorem ggL_law_X10_total : GoodIn wsL_law wsX10_total := goodIn_r _ [775, 508, 166, 763, 504, 505, 506, 5, 507, 338, 163, 162, 165, 167, 164, 159, 157, 146, 160, 342, 343, 344, 345, 153, 346, 347, 348, 349, 145, 350, 351, 352, 353, 142, 161, 149, 150, 152, 151, 354, 355, 356, 198, 199, 200, 509, 510, 511, 512, 513, 514, 515, 516, 517, 518, 519, 520, 521, 522, 523, 524, 525, 526, 527, 528, 156, 529, 530, 531, 532, 158, 764, 765, 766, 767, 154, 155, 391, 392, 393, 394, 208, 791, 792, 793, 794, 795, 796, 797, 798, 799, 800, 801, 802, 803, 804, 805, 806, 807, 808, 809, 810, 811, 812, 813, 814, 815, 816, 817, 818, 819] (by decide +kernel) (by decide +kernel)
set_option maxRecDepth 20000 in
theorem gL_law_X10_total : GoodIn wsL_law (wsV RL 202 RX10 yX10_total wsX10_total) := goodIn_app (goodIn_of _ (by decide +kernel)) ggL_law_X10_total
theorem dL_law_0 : decode cL_law 0 = .ok (.new 8, 3) := by decide +kernel
theorem dL_law_3 : decode cL_law 3 = .ok (.dup, 1) := by decide +kernel
theorem dL_law_4 : decode cL_law 4 = .ok (.invokespecial 93, 3) := by decide +kernel
theorem dL_law_7 : decode cL_law 7 = .ok (.astore_n 1, 1) := by decide +kernel
theorem dL_law_8 : decode cL_law 8 = .ok (.new 94, 3) := by decide +kernel
theorem dL_law_11 : decode cL_law 11 = .ok (.dup, 1) := by decide +kernel
theorem dL_law_12 : decode cL_law 12 = .ok (.invokespecial 96, 3) := by decide +kernel
theorem dL_law_15 : decode cL_law 15 = .ok (.astore_n 2, 1) := by decide +kernel
theorem dL_law_16 : decode cL_law 16 = .ok (.iconst 1, 1) := by decide +kernel
theorem dL_law_17 : decode cL_law 17 = .ok (.newarray .long, 2) := by decide +kernel
theorem dL_law_19 : decode cL_law 19 = .ok (.astore_n 3, 1) := by decide +kernel
theorem dL_law_20 : decode cL_law 20 = .ok (.iconst 0, 1) := by decide +kernel
theorem dL_law_21 : decode cL_law 21 = .ok (.istore 4, 2) := by decide +kernel
theorem dL_law_23 : decode cL_law 23 = .ok (.iload 4, 2) := by decide +kernel
theorem dL_law_25 : decode cL_law 25 = .ok (.aload_n 0, 1) := by decide +kernel
theorem dL_law_26 : decode cL_law 26 = .ok (.arraylength, 1) := by decide +kernel
theorem dL_law_27 : decode cL_law 27 = .ok (.iconst 5, 1) := by decide +kernel
theorem dL_law_28 : decode cL_law 28 = .ok (.isub, 1) := by decide +kernel
theorem dL_law_29 : decode cL_law 29 = .ok (.if_icmp .gt 1817, 3) := by decide +kernel
theorem dL_law_32 : decode cL_law 32 = .ok (.aload_n 0, 1) := by decide +kernel
theorem dL_law_33 : decode cL_law 33 = .ok (.iload 4, 2) := by decide +kernel
theorem dL_law_35 : decode cL_law 35 = .ok (.iaload, 1) := by decide +kernel
theorem dL_law_36 : decode cL_law 36 = .ok (.bipush 31, 2) := by decide +kernel
theorem dL_law_38 : decode cL_law 38 = .ok (.iand, 1) := by decide +kernel
theorem dL_law_39 : decode cL_law 39 = .ok (.tableswitch 1801 0 29 #[133, 213, 305, 385, 465, 545, 558, 614, 682, 762, 818, 874, 930, 986, 1042, 1110, 1178, 1246, 1301, 1314, 1327, 1383, 1396, 1471, 1527, 1583, 1651, 1664, 1732, 1788], 133) := by decide +kernel
theorem dL_law_172 : decode cL_law 172 = .ok (.aload_n 1, 1) := by decide +kernel
theorem dL_law_173 : decode cL_law 173 = .ok (.aload_n 0, 1) := by decide +kernel
theorem dL_law_174 : decode cL_law 174 = .ok (.iload 4, 2) := by decide +kernel
theorem dL_law_176 : decode cL_law 176 = .ok (.iconst 1, 1) := by decide +kernel
theorem dL_law_177 : decode cL_law 177 = .ok (.iadd, 1) := by decide +kernel
