theorem goodIn_h {big a : List Cond} {c : Cond} (hm : c ∈ big) (hg : goodWord c = true) (ha : GoodIn big a) : GoodIn big (c :: a) := fun w h => (List.mem_cons.mp h).elim (fun e => by rw [e]; exact ⟨hm, good_of_word hg⟩) (ha w)
set_option maxRecDepth 20000 in
theorem ggL_setRack_X9_setRack : GoodIn wsL_setRack wsX9_setRack := goodIn_ca (goodIn_r _ [7, 8, 9, 10, 11, 12, 13, 14, 15, 6, 16, 17, 18, 19, 20, 21, 22, 23, 24, 25, 26, 27, 28, 29, 30, 31, 32, 33, 34, 35, 36, 37, 38, 39] (by decide +kernel) (by decide +kernel)) (goodIn_sub (fun _ h => List.mem_cons_of_mem _ (List.mem_append_right _ h)) (by decide +kernel))
set_option maxRecDepth 20000 in
theorem gL_setRack_X9_setRack : GoodIn wsL_setRack (wsV RL 10 RX9 yX9_setRack wsX9_setRack) := goodIn_app (goodIn_of _ (by decide +kernel)) ggL_setRack_X9_setRack
theorem dL_setRack_0 : decode cL_setRack 0 = .ok (.aload_n 0, 1) := by decide +kernel
theorem dL_setRack_1 : decode cL_setRack 1 = .ok (.iload_n 1, 1) := by decide +kernel
theorem dL_setRack_2 : decode cL_setRack 2 = .ok (.iload_n 2, 1) := by decide +kernel
theorem dL_setRack_3 : decode cL_setRack 3 = .ok (.iload_n 3, 1) := by decide +kernel
theorem dL_setRack_4 : decode cL_setRack 4 = .ok (.invokevirtual 10, 3) := by decide +kernel
theorem dL_setRack_7 : decode cL_setRack 7 = .ok (.ireturn, 1) := by decide +kernel
theorem dL_setRack_8 : decode cL_setRack 8 = .ok (.astore 4, 2) := by decide +kernel
theorem dL_setRack_10 : decode cL_setRack 10 = .ok (.ldc 18, 2) := by decide +kernel
theorem dL_setRack_12 : decode cL_setRack 12 = .ok (.ireturn, 1) := by decide +kernel
set_option maxRecDepth 20000 in
theorem ggL_setShell_X9_setShell : GoodIn wsL_setShell wsX9_setShell := goodIn_ca (goodIn_r _ [7, 8, 9, 10, 11, 12, 13, 14, 6, 15, 16, 17, 18, 19, 20, 21, 22, 23, 24, 25, 26, 27, 28, 29, 30, 31, 32, 33, 34, 35, 36, 37, 38, 39, 40, 41, 42, 43, 44, 45, 46, 47, 48, 49, 50, 51, 52, 53, 54, 55, 56, 57, 58, 59, 60, 61, 62, 63, 64, 65, 66, 67, 68, 69, 70, 71, 72, 73, 74, 75, 76, 77, 78, 79, 80, 81, 82, 83, 84, 85, 86] (by decide +kernel) (by decide +kernel)) (goodIn_sub (fun _ h => List.mem_cons_of_mem _ (List.mem_append_right _ h)) (by decide +kernel))
set_option maxRecDepth 20000 in
theorem gL_setShell_X9_setShell : GoodIn wsL_setShell (wsV RL 19 RX9 yX9_setShell wsX9_setShell) := goodIn_app (goodIn_of _ (by decide +kernel)) ggL_setShell_X9_setShell
theorem dL_setShell_0 : decode cL_setShell 0 = .ok (.aload_n 0, 1) := by decide +kernel
theorem dL_setShell_1 : decode cL_setShell 1 = .ok (.iload_n 1, 1) := by decide +kernel
theorem dL_setShell_2 : decode cL_setShell 2 = .ok (.iload_n 2, 1) := by decide +kernel
theorem dL_setShell_3 : decode cL_setShell 3 = .ok (.iload_n 3, 1) := by decide +kernel
theorem dL_setShell_4 : decode cL_setShell 4 = .ok (.iload 4, 2) := by decide +kernel
theorem dL_setShell_6 : decode cL_setShell 6 = .ok (.invokevirtual 19, 3) := by decide +kernel
theorem dL_setShell_9 : decode cL_setShell 9 = .ok (.ireturn, 1) := by decide +kernel
theorem dL_setShell_10 : decode cL_setShell 10 = .ok (.astore 5, 2) := by decide +kernel
theorem dL_setShell_12 : decode cL_setShell 12 = .ok (.ldc 18, 2) := by decide +kernel
theorem dL_setShell_14 : decode cL_setShell 14 = .ok (.ireturn, 1) := by decide +kernel
set_option maxRecDepth 20000 in
theorem ggL_setWind_X9_setWind : GoodIn wsL_setWind wsX9_setWind := goodIn_ca (goodIn_r _ [7, 8, 9, 10, 11, 12, 13, 14, 15, 16, 6, 17, 18, 19, 20, 21, 22, 23, 24, 25, 26, 27, 28, 29, 30, 31, 32, 33, 34, 35, 36, 37, 38, 39, 40, 41, 42, 43, 44, 45, 46, 47, 48, 49, 50, 51, 52, 53, 54, 55, 56, 57, 58, 59, 60, 61, 62, 63, 64, 65, 66, 67, 68, 69, 70, 71, 72, 73, 74, 75, 76, 77, 78, 79, 80, 81, 82, 83, 84, 85, 86, 87, 88, 89, 90, 91, 92, 93, 94, 95, 96, 97, 98, 99, 100, 101, 102, 103, 104, 105, 106, 107, 108, 109, 110, 111, 112, 113, 114, 115, 116, 117, 118, 119, 120, 121, 122, 123, 124, 125, 126, 127, 128, 129, 130, 131, 132, 133, 134, 135, 136, 137, 138, 139, 140, 141, 142, 143, 144, 145, 146, 147, 148, 149, 150, 151, 152, 153, 154, 155, 156, 157, 158, 159, 160, 161, 162, 163, 164, 165, 166, 167, 168, 169, 170, 171, 172, 173, 174, 175, 176, 177, 178, 179, 180, 181, 182, 183, 184, 185, 186, 187, 188, 189, 190, 191, 192, 193] (by decide +kernel) (by decide +kernel)) (goodIn_sub (fun _ h => List.mem_cons_of_mem _ (List.mem_append_right _ h)) (by decide +kernel))
set_option maxRecDepth 20000 in
theorem gL_setWind_X9_setWind : GoodIn wsL_setWind (wsV RL 23 RX9 yX9_setWind wsX9_setWind) := goodIn_app (goodIn_of _ (by decide +kernel)) ggL_setWind_X9_setWind
theorem dL_setWind_0 : decode cL_setWind 0 = .ok (.aload_n 0, 1) := by decide +kernel
theorem dL_setWind_1 : decode cL_setWind 1 = .ok (.iload_n 1, 1) := by decide +kernel
theorem dL_setWind_2 : decode cL_setWind 2 = .ok (.iload_n 2, 1) := by decide +kernel
theorem dL_setWind_3 : decode cL_setWind 3 = .ok (.iload_n 3, 1) := by decide +kernel
theorem dL_setWind_4 : decode cL_setWind 4 = .ok (.invokevirtual 23, 3) := by decide +kernel
theorem dL_setWind_7 : decode cL_setWind 7 = .ok (.ireturn, 1) := by decide +kernel
theorem dL_setWind_8 : decode cL_setWind 8 = .ok (.astore 4, 2) := by decide +kernel
theorem dL_setWind_10 : decode cL_setWind 10 = .ok (.ldc 18, 2) := by decide +kernel
theorem dL_setWind_12 : decode cL_setWind 12 = .ok (.ireturn, 1) := by decide +kernel
set_option maxRecDepth 20000 in
theorem ggL_setPeople_X9_setPeople : GoodIn wsL_setPeople wsX9_setPeople := goodIn_ca (goodIn_r _ [7, 8, 9, 10, 11, 12, 13, 14, 6, 15, 16, 17, 18, 19, 20, 21, 22, 23, 24, 25, 26, 27, 28, 29, 30, 31, 32, 33, 34, 35, 36, 37, 38] (by decide +kernel) (by decide +kernel)) (goodIn_sub (fun _ h => List.mem_cons_of_mem _ (List.mem_append_right _ h)) (by decide +kernel))
set_option maxRecDepth 20000 in
theorem gL_setPeople_X9_setPeople : GoodIn wsL_setPeople (wsV RL 26 RX9 yX9_setPeople wsX9_setPeople) := goodIn_app (goodIn_of _ (by decide +kernel)) ggL_setPeople_X9_setPeople
theorem dL_setPeople_0 : decode cL_setPeople 0 = .ok (.aload_n 0, 1) := by decide +kernel
theorem dL_setPeople_1 : decode cL_setPeople 1 = .ok (.iload_n 1, 1) := by decide +kernel
theorem dL_setPeople_2 : decode cL_setPeople 2 = .ok (.iload_n 2, 1) := by decide +kernel
theorem dL_setPeople_3 : decode cL_setPeople 3 = .ok (.iload_n 3, 1) := by decide +kernel
theorem dL_setPeople_4 : decode cL_setPeople 4 = .ok (.invokevirtual 26, 3) := by decide +kernel
theorem dL_setPeople_7 : decode cL_setPeople 7 = .ok (.ireturn, 1) := by decide +kernel
theorem dL_setPeople_8 : decode cL_setPeople 8 = .ok (.astore 4, 2) := by decide +kernel
theorem dL_setPeople_10 : decode cL_setPeople 10 = .ok (.ldc 18, 2) := by decide +kernel
theorem dL_setPeople_12 : decode cL_setPeople 12 = .ok (.ireturn, 1) := by decide +kernel
set_option maxRecDepth 20000 in
theorem ggL_setValue_X9_setValue : GoodIn wsL_setValue wsX9_setValue := goodIn_ca (goodIn_r _ [7, 8, 9, 10, 11, 12, 13, 14, 6, 15, 16, 17, 18, 19, 20, 21, 22, 23, 24, 25, 26, 27, 28, 29, 30, 31, 32, 33, 34, 35, 36, 37, 38] (by decide +kernel) (by decide +kernel)) (goodIn_sub (fun _ h => List.mem_cons_of_mem _ (List.mem_append_right _ h)) (by decide +kernel))
set_option maxRecDepth 20000 in
theorem gL_setValue_X9_setValue : GoodIn wsL_setValue (wsV RL 29 RX9 yX9_setValue wsX9_setValue) := goodIn_app (goodIn_of _ (by decide +kernel)) ggL_setValue_X9_setValue
theorem dL_setValue_0 : decode cL_setValue 0 = .ok (.aload_n 0, 1) := by decide +kernel
theorem dL_setValue_1 : decode cL_setValue 1 = .ok (.iload_n 1, 1) := by decide +kernel
theorem dL_setValue_2 : decode cL_setValue 2 = .ok (.iload_n 2, 1) := by decide +kernel
theorem dL_setValue_3 : decode cL_setValue 3 = .ok (.iload_n 3, 1) := by decide +kernel
theorem dL_setValue_4 : decode cL_setValue 4 = .ok (.invokevirtual 29, 3) := by decide +kernel
theorem dL_setValue_7 : decode cL_setValue 7 = .ok (.ireturn, 1) := by decide +kernel
theorem dL_setValue_8 : decode cL_setValue 8 = .ok (.astore 4, 2) := by decide +kernel
theorem dL_setValue_10 : decode cL_setValue 10 = .ok (.ldc 18, 2) := by decide +kernel
theorem dL_setValue_12 : decode cL_setValue 12 = .ok (.ireturn, 1) := by decide +kernel
set_option maxRecDepth 20000 in
theorem ggL_flight_X9_flight : GoodIn wsL_flight wsX9_flight := goodIn_ca (goodIn_r _ [7, 8, 9, 10, 11, 12, 13, 6, 14, 15, 16, 17, 18, 19, 20, 21, 22, 23, 24, 25, 26, 27, 28, 29, 30, 31, 32, 33, 34, 35, 36] (by decide +kernel) (by decide +kernel)) (goodIn_sub (fun _ h => List.mem_cons_of_mem _ (List.mem_append_right _ h)) (by decide +kernel))
set_option maxRecDepth 20000 in
theorem gL_flight_X9_flight : GoodIn wsL_flight (wsV RL 32 RX9 yX9_flight wsX9_flight) := goodIn_app (goodIn_of _ (by decide +kernel)) ggL_flight_X9_flight
theorem dL_flight_0 : decode cL_flight 0 = .ok (.aload_n 0, 1) := by decide +kernel
theorem dL_flight_1 : decode cL_flight 1 = .ok (.iload_n 1, 1) := by decide +kernel
theorem dL_flight_2 : decode cL_flight 2 = .ok (.invokevirtual 32, 3) := by decide +kernel
theorem dL_flight_5 : decode cL_flight 5 = .ok (.ireturn, 1) := by decide +kernel
theorem dL_flight_6 : decode cL_flight 6 = .ok (.astore_n 2, 1) := by decide +kernel
theorem dL_flight_7 : decode cL_flight 7 = .ok (.ldc 18, 2) := by decide +kernel
theorem dL_flight_9 : decode cL_flight 9 = .ok (.ireturn, 1) := by decide +kernel
set_option maxRecDepth 20000 in
theorem ggL_inLayer_X9_inLayer : GoodIn wsL_inLayer wsX9_inLayer := goodIn_ca (goodIn_r _ [7, 8, 9, 10, 11, 12, 13, 6, 14, 15, 16, 17, 18, 19, 20, 21, 22, 23, 24, 25, 26, 27, 28, 29, 30, 31, 32, 33, 34, 35, 36] (by decide +kernel) (by decide +kernel)) (goodIn_sub (fun _ h => List.mem_cons_of_mem _ (List.mem_append_right _ h)) (by decide +kernel))
set_option maxRecDepth 20000 in
theorem gL_inLayer_X9_inLayer : GoodIn wsL_inLayer (wsV RL 36 RX9 yX9_inLayer wsX9_inLayer) := goodIn_app (goodIn_of _ (by decide +kernel)) ggL_inLayer_X9_inLayer
theorem dL_inLayer_0 : decode cL_inLayer 0 = .ok (.aload_n 0, 1) := by decide +kernel
theorem dL_inLayer_1 : decode cL_inLayer 1 = .ok (.iload_n 1, 1) := by decide +kernel
theorem dL_inLayer_2 : decode cL_inLayer 2 = .ok (.iload_n 2, 1) := by decide +kernel
theorem dL_inLayer_3 : decode cL_inLayer 3 = .ok (.invokevirtual 36, 3) := by decide +kernel
theorem dL_inLayer_6 : decode cL_inLayer 6 = .ok (.ireturn, 1) := by decide +kernel
theorem dL_inLayer_7 : decode cL_inLayer 7 = .ok (.astore_n 3, 1) := by decide +kernel
theorem dL_inLayer_8 : decode cL_inLayer 8 = .ok (.ldc 18, 2) := by decide +kernel
theorem dL_inLayer_10 : decode cL_inLayer 10 = .ok (.ireturn, 1) := by decide +kernel
set_option maxRecDepth 20000 in
theorem ggL_cue_X9_cue : GoodIn wsL_cue wsX9_cue := goodIn_ca (goodIn_ca (goodIn_r _ [9, 10, 11, 12, 13, 14, 15, 16, 17, 18, 19, 20, 21, 22, 23, 24, 8, 25, 26, 27, 28, 29, 30, 31, 32, 33, 34, 35, 36, 37, 38, 39, 40, 41, 42, 43, 44, 45, 46, 47, 48, 49, 50, 51, 52, 53, 54, 55, 56, 57, 58, 59, 60, 61, 62, 63, 64] (by decide +kernel) (by decide +kernel)) (goodIn_sub (fun _ h => List.mem_cons_of_mem _ (List.mem_append_left _ (List.mem_append_right _ h))) (by decide +kernel))) (goodIn_sub (fun _ h => List.mem_cons_of_mem _ (List.mem_append_right _ h)) (by decide +kernel))
set_option maxRecDepth 20000 in
theorem gL_cue_X9_cue : GoodIn wsL_cue (wsV RL 40 RX9 yX9_cue wsX9_cue) := goodIn_app (goodIn_of _ (by decide +kernel)) ggL_cue_X9_cue
theorem dL_cue_0 : decode cL_cue 0 = .ok (.aload_n 0, 1) := by decide +kernel
theorem dL_cue_1 : decode cL_cue 1 = .ok (.iload_n 1, 1) := by decide +kernel
theorem dL_cue_2 : decode cL_cue 2 = .ok (.iload_n 2, 1) := by decide +kernel
theorem dL_cue_3 : decode cL_cue 3 = .ok (.iload_n 3, 1) := by decide +kernel
theorem dL_cue_4 : decode cL_cue 4 = .ok (.invokevirtual 40, 3) := by decide +kernel
theorem dL_cue_7 : decode cL_cue 7 = .ok (.ireturn, 1) := by decide +kernel
theorem dL_cue_8 : decode cL_cue 8 = .ok (.astore 4, 2) := by decide +kernel
theorem dL_cue_10 : decode cL_cue 10 = .ok (.ldc 18, 2) := by decide +kernel
theorem dL_cue_12 : decode cL_cue 12 = .ok (.ireturn, 1) := by decide +kernel
theorem dL_cue_13 : decode cL_cue 13 = .ok (.astore 4, 2) := by decide +kernel
theorem dL_cue_15 : decode cL_cue 15 = .ok (.ldc 45, 2) := by decide +kernel
theorem dL_cue_17 : decode cL_cue 17 = .ok (.ireturn, 1) := by decide +kernel
set_option maxRecDepth 20000 in
theorem ggL_cut_X9_cut : GoodIn wsL_cut wsX9_cut := goodIn_ca (goodIn_r _ [7, 8, 9, 10, 11, 12, 13, 14, 6, 15, 16, 17, 18, 19, 20, 21, 22, 23, 24, 25, 26, 27, 28, 29, 30, 31, 32, 33, 34, 35, 36, 37, 38, 39, 40, 41, 42, 43, 44] (by decide +kernel) (by decide +kernel)) (goodIn_sub (fun _ h => List.mem_cons_of_mem _ (List.mem_append_right _ h)) (by decide +kernel))
set_option maxRecDepth 20000 in
theorem gL_cut_X9_cut : GoodIn wsL_cut (wsV RL 46 RX9 yX9_cut wsX9_cut) := goodIn_app (goodIn_of _ (by decide +kernel)) ggL_cut_X9_cut
theorem dL_cut_0 : decode cL_cut 0 = .ok (.aload_n 0, 1) := by decide +kernel
theorem dL_cut_1 : decode cL_cut 1 = .ok (.iload_n 1, 1) := by decide +kernel
theorem dL_cut_2 : decode cL_cut 2 = .ok (.invokevirtual 46, 3) := by decide +kernel
theorem dL_cut_5 : decode cL_cut 5 = .ok (.ireturn, 1) := by decide +kernel
theorem dL_cut_6 : decode cL_cut 6 = .ok (.astore_n 2, 1) := by decide +kernel
theorem dL_cut_7 : decode cL_cut 7 = .ok (.ldc 51, 2) := by decide +kernel
theorem dL_cut_9 : decode cL_cut 9 = .ok (.ireturn, 1) := by decide +kernel
set_option maxRecDepth 20000 in
theorem ggL_setTempo_X9_setTempo : GoodIn wsL_setTempo wsX9_setTempo := goodIn_ca (goodIn_r _ [7, 8, 9, 10, 11, 12, 13, 6, 14, 15, 16, 17, 18, 19, 20, 21, 22, 23, 24, 25, 26, 27, 28, 29] (by decide +kernel) (by decide +kernel)) (goodIn_sub (fun _ h => List.mem_cons_of_mem _ (List.mem_append_right _ h)) (by decide +kernel))
set_option maxRecDepth 20000 in
theorem gL_setTempo_X9_setTempo : GoodIn wsL_setTempo (wsV RL 52 RX9 yX9_setTempo wsX9_setTempo) := goodIn_app (goodIn_of _ (by decide +kernel)) ggL_setTempo_X9_setTempo
theorem dL_setTempo_0 : decode cL_setTempo 0 = .ok (.aload_n 0, 1) := by decide +kernel
theorem dL_setTempo_1 : decode cL_setTempo 1 = .ok (.iload_n 1, 1) := by decide +kernel
theorem dL_setTempo_2 : decode cL_setTempo 2 = .ok (.invokevirtual 52, 3) := by decide +kernel
theorem dL_setTempo_5 : decode cL_setTempo 5 = .ok (.ireturn, 1) := by decide +kernel
theorem dL_setTempo_6 : decode cL_setTempo 6 = .ok (.astore_n 2, 1) := by decide +kernel
theorem dL_setTempo_7 : decode cL_setTempo 7 = .ok (.ldc 18, 2) := by decide +kernel
theorem dL_setTempo_9 : decode cL_setTempo 9 = .ok (.ireturn, 1) := by decide +kernel
set_option maxRecDepth 20000 in
theorem ggL_becomes_X9_becomes : GoodIn wsL_becomes wsX9_becomes := goodIn_ca (goodIn_r _ [7, 8, 9, 10, 11, 6, 12, 13, 14, 15, 16, 17, 18, 19, 20, 21, 22, 23, 24, 25, 26, 27, 28, 29, 30, 31, 32, 33, 34, 35, 36, 37, 38, 39, 40, 41, 42, 43, 44, 45, 46, 47, 48, 49, 50, 51, 52, 53, 54, 55, 56, 57, 58, 59, 60, 61, 62, 63, 64, 65, 66, 67, 68, 69, 70, 71, 72, 73, 74, 75, 76, 77, 78, 79, 80, 81, 82, 83, 84, 85, 86, 87, 88, 89, 90, 91, 92, 93, 94, 95, 96, 97, 98, 99, 100, 101, 102, 103, 104, 105, 106, 107, 108, 109, 110, 111, 112, 113, 114, 115, 116, 117, 118, 119, 120, 121, 122, 123, 124, 125, 126, 127, 128, 129, 130, 131, 132, 133, 134, 135, 136, 137, 138, 139, 140, 141, 142, 143, 144, 145, 146, 147, 148, 149, 150, 151, 152, 153, 154, 155, 156, 157, 158, 159, 160, 161, 162, 163, 164, 165, 166, 167, 168, 169, 170, 171, 172, 173, 174, 175, 176, 177, 178, 179, 180, 181, 182, 183, 184, 185, 186, 187, 188, 189] (by decide +kernel) (by decide +kernel)) (goodIn_sub (fun _ h => List.mem_cons_of_mem _ (List.mem_append_right _ h)) (by decide +kernel))
set_option maxRecDepth 20000 in
theorem gL_becomes_X9_becomes : GoodIn wsL_becomes (wsV RL 55 RX9 yX9_becomes wsX9_becomes) := goodIn_app (goodIn_of _ (by decide +kernel)) ggL_becomes_X9_becomes
theorem dL_becomes_0 : decode cL_becomes 0 = .ok (.aload_n 0, 1) := by decide +kernel
theorem dL_becomes_1 : decode cL_becomes 1 = .ok (.iload_n 1, 1) := by decide +kernel
theorem dL_becomes_2 : decode cL_becomes 2 = .ok (.invokevirtual 55, 3) := by decide +kernel
theorem dL_becomes_5 : decode cL_becomes 5 = .ok (.ireturn, 1) := by decide +kernel
theorem dL_becomes_6 : decode cL_becomes 6 = .ok (.astore_n 2, 1) := by decide +kernel
theorem dL_becomes_7 : decode cL_becomes 7 = .ok (.ldc 51, 2) := by decide +kernel
theorem dL_becomes_9 : decode cL_becomes 9 = .ok (.ireturn, 1) := by decide +kernel
set_option maxRecDepth 20000 in
theorem ggL_bursts_X9_bursts : GoodIn wsL_bursts wsX9_bursts := goodIn_ca (goodIn_r _ [7, 8, 9, 10, 11, 6, 12, 13, 14, 15, 16, 17, 18, 19, 20, 21, 22, 23, 24, 25, 26, 27, 28, 29, 30, 31, 32, 33, 34, 35, 36, 37, 38, 39, 40, 41, 42, 43, 44, 45, 46, 47, 48, 49, 50, 51, 52, 53, 54, 55, 56, 57, 58, 59, 60, 61, 62, 63, 64, 65, 66, 67, 68, 69, 70, 71, 72, 73, 74, 75, 76, 77, 78, 79, 80, 81, 82, 83, 84, 85, 86, 87, 88, 89, 90, 91, 92, 93, 94, 95, 96, 97, 98, 99, 100, 101, 102, 103, 104, 105, 106, 107, 108, 109, 110, 111, 112, 113, 114, 115, 116, 117, 118, 119, 120, 121, 122, 123, 124, 125, 126, 127, 128, 129, 130, 131, 132, 133, 134, 135, 136, 137, 138, 139, 140, 141, 142, 143, 144, 145, 146, 147, 148, 149, 150, 151, 152, 153, 154, 155, 156, 157, 158, 159, 160, 161, 162, 163, 164, 165, 166, 167, 168, 169, 170, 171, 172, 173, 174, 175, 176, 177, 178, 179, 180, 181, 182, 183, 184, 185, 186, 187, 188, 189] (by decide +kernel) (by decide +kernel)) (goodIn_sub (fun _ h => List.mem_cons_of_mem _ (List.mem_append_right _ h)) (by decide +kernel))
set_option maxRecDepth 20000 in
theorem gL_bursts_X9_bursts : GoodIn wsL_bursts (wsV RL 58 RX9 yX9_bursts wsX9_bursts) := goodIn_app (goodIn_of _ (by decide +kernel)) ggL_bursts_X9_bursts
theorem dL_bursts_0 : decode cL_bursts 0 = .ok (.aload_n 0, 1) := by decide +kernel
theorem dL_bursts_1 : decode cL_bursts 1 = .ok (.iload_n 1, 1) := by decide +kernel
theorem dL_bursts_2 : decode cL_bursts 2 = .ok (.invokevirtual 58, 3) := by decide +kernel
theorem dL_bursts_5 : decode cL_bursts 5 = .ok (.ireturn, 1) := by decide +kernel
theorem dL_bursts_6 : decode cL_bursts 6 = .ok (.astore_n 2, 1) := by decide +kernel
theorem dL_bursts_7 : decode cL_bursts 7 = .ok (.ldc 51, 2) := by decide +kernel
theorem dL_bursts_9 : decode cL_bursts 9 = .ok (.ireturn, 1) := by decide +kernel
set_option maxRecDepth 20000 in
theorem ggL_fires_X9_fires : GoodIn wsL_fires wsX9_fires := goodIn_ca (goodIn_r _ [7, 8, 9, 10, 11, 6, 12, 13, 14, 15, 16, 17, 18, 19, 20, 21, 22, 23, 24, 25, 26, 27, 28, 29, 30, 31, 32, 33, 34, 35, 36, 37, 38, 39, 40, 41, 42, 43, 44, 45, 46, 47, 48, 49, 50, 51, 52, 53, 54, 55, 56, 57, 58, 59, 60, 61, 62, 63, 64, 65, 66, 67, 68, 69, 70, 71, 72, 73, 74, 75, 76, 77, 78, 79, 80, 81, 82, 83, 84, 85, 86, 87, 88, 89, 90, 91, 92, 93, 94, 95, 96, 97, 98, 99, 100, 101, 102, 103, 104, 105, 106, 107, 108, 109, 110, 111, 112, 113, 114, 115, 116, 117, 118, 119, 120, 121, 122, 123, 124, 125, 126, 127, 128, 129, 130, 131, 132, 133, 134, 135, 136, 137, 138, 139, 140, 141, 142, 143, 144, 145, 146, 147, 148, 149, 150, 151, 152, 153, 154, 155, 156, 157, 158, 159, 160, 161, 162, 163, 164, 165, 166, 167, 168, 169, 170, 171, 172, 173, 174, 175, 176, 177, 178, 179, 180, 181, 182, 183, 184, 185, 186, 187, 188, 189] (by decide +kernel) (by decide +kernel)) (goodIn_sub (fun _ h => List.mem_cons_of_mem _ (List.mem_append_right _ h)) (by decide +kernel))
set_option maxRecDepth 20000 in
theorem gL_fires_X9_fires : GoodIn wsL_fires (wsV RL 61 RX9 yX9_fires wsX9_fires) := goodIn_app (goodIn_of _ (by decide +kernel)) ggL_fires_X9_fires
theorem dL_fires_0 : decode cL_fires 0 = .ok (.aload_n 0, 1) := by decide +kernel
theorem dL_fires_1 : decode cL_fires 1 = .ok (.iload_n 1, 1) := by decide +kernel
theorem dL_fires_2 : decode cL_fires 2 = .ok (.invokevirtual 61, 3) := by decide +kernel
theorem dL_fires_5 : decode cL_fires 5 = .ok (.ireturn, 1) := by decide +kernel
theorem dL_fires_6 : decode cL_fires 6 = .ok (.astore_n 2, 1) := by decide +kernel
theorem dL_fires_7 : decode cL_fires 7 = .ok (.ldc 51, 2) := by decide +kernel
theorem dL_fires_9 : decode cL_fires 9 = .ok (.ireturn, 1) := by decide +kernel
set_option maxRecDepth 20000 in
theorem ggL_falls_X9_falls : GoodIn wsL_falls wsX9_falls := goodIn_ca (goodIn_ca (goodIn_r _ [9, 10, 11, 12, 13, 14, 8, 15, 16, 17, 18, 19, 20, 21, 22, 23, 24, 25, 26, 27, 28, 29, 30, 31, 32, 33, 34, 35, 36, 37, 38, 39, 40, 41, 42, 43, 44, 45, 46, 47, 48, 49, 50, 51, 52, 53, 54, 55, 56, 57, 58, 59, 60, 61, 62, 63, 64, 65, 66, 67, 68, 69, 70, 71, 72, 73, 74, 75, 76, 77, 78, 79, 80, 81, 82, 83, 84, 85, 86, 87, 88, 89, 90, 91, 92, 93] (by decide +kernel) (by decide +kernel)) (goodIn_sub (fun _ h => List.mem_cons_of_mem _ (List.mem_append_left _ (List.mem_append_right _ h))) (by decide +kernel))) (goodIn_sub (fun _ h => List.mem_cons_of_mem _ (List.mem_append_right _ h)) (by decide +kernel))
set_option maxRecDepth 20000 in
theorem gL_falls_X9_falls : GoodIn wsL_falls (wsV RL 64 RX9 yX9_falls wsX9_falls) := goodIn_app (goodIn_of _ (by decide +kernel)) ggL_falls_X9_falls
theorem dL_falls_0 : decode cL_falls 0 = .ok (.aload_n 0, 1) := by decide +kernel
theorem dL_falls_1 : decode cL_falls 1 = .ok (.iload_n 1, 1) := by decide +kernel
theorem dL_falls_2 : decode cL_falls 2 = .ok (.iload_n 2, 1) := by decide +kernel
theorem dL_falls_3 : decode cL_falls 3 = .ok (.invokevirtual 64, 3) := by decide +kernel
theorem dL_falls_6 : decode cL_falls 6 = .ok (.ireturn, 1) := by decide +kernel
theorem dL_falls_7 : decode cL_falls 7 = .ok (.astore_n 3, 1) := by decide +kernel
theorem dL_falls_8 : decode cL_falls 8 = .ok (.ldc 51, 2) := by decide +kernel
theorem dL_falls_10 : decode cL_falls 10 = .ok (.ireturn, 1) := by decide +kernel
theorem dL_falls_11 : decode cL_falls 11 = .ok (.astore_n 3, 1) := by decide +kernel
theorem dL_falls_12 : decode cL_falls 12 = .ok (.ldc 18, 2) := by decide +kernel
theorem dL_falls_14 : decode cL_falls 14 = .ok (.ireturn, 1) := by decide +kernel
set_option maxRecDepth 20000 in
theorem ggL_fallsBySteps_X9_fallsBySteps : GoodIn wsL_fallsBySteps wsX9_fallsBySteps := goodIn_ca (goodIn_ca (goodIn_r _ [9, 10, 11, 12, 13, 14, 15, 16, 17, 18, 19, 20, 21, 22, 23, 8, 24, 25, 26, 27, 28, 29, 30, 31, 32, 33, 34, 35, 36, 37, 38, 39, 40, 41, 42, 43, 44, 45, 46, 47, 48, 49, 50, 51, 52, 53, 54, 55, 56, 57, 58, 59, 60, 61, 62, 63, 64, 65, 66, 67, 68, 69, 70, 71, 72, 73, 74, 75, 76, 77, 78, 79, 80, 81, 82, 83, 84, 85, 86, 87, 88, 89, 90, 91, 92, 93, 94, 95, 96, 97, 98, 99, 100, 101, 102, 103, 104, 105, 106, 107, 108, 109, 110, 111, 112, 113, 114, 115, 116, 117, 118, 119, 120, 121, 122, 123, 124, 125, 126, 127, 128, 129, 130, 131, 132] (by decide +kernel) (by decide +kernel)) (goodIn_sub (fun _ h => List.mem_cons_of_mem _ (List.mem_append_left _ (List.mem_append_right _ h))) (by decide +kernel))) (goodIn_sub (fun _ h => List.mem_cons_of_mem _ (List.mem_append_right _ h)) (by decide +kernel))
set_option maxRecDepth 20000 in
theorem gL_fallsBySteps_X9_fallsBySteps : GoodIn wsL_fallsBySteps (wsV RL 67 RX9 yX9_fallsBySteps wsX9_fallsBySteps) := goodIn_app (goodIn_of _ (by decide +kernel)) ggL_fallsBySteps_X9_fallsBySteps
theorem dL_fallsBySteps_0 : decode cL_fallsBySteps 0 = .ok (.aload_n 0, 1) := by decide +kernel
theorem dL_fallsBySteps_1 : decode cL_fallsBySteps 1 = .ok (.iload_n 1, 1) := by decide +kernel
theorem dL_fallsBySteps_2 : decode cL_fallsBySteps 2 = .ok (.iload_n 2, 1) := by decide +kernel
theorem dL_fallsBySteps_3 : decode cL_fallsBySteps 3 = .ok (.invokevirtual 67, 3) := by decide +kernel
theorem dL_fallsBySteps_6 : decode cL_fallsBySteps 6 = .ok (.ireturn, 1) := by decide +kernel
theorem dL_fallsBySteps_7 : decode cL_fallsBySteps 7 = .ok (.astore_n 3, 1) := by decide +kernel
theorem dL_fallsBySteps_8 : decode cL_fallsBySteps 8 = .ok (.ldc 51, 2) := by decide +kernel
theorem dL_fallsBySteps_10 : decode cL_fallsBySteps 10 = .ok (.ireturn, 1) := by decide +kernel
theorem dL_fallsBySteps_11 : decode cL_fallsBySteps 11 = .ok (.astore_n 3, 1) := by decide +kernel
theorem dL_fallsBySteps_12 : decode cL_fallsBySteps 12 = .ok (.ldc 18, 2) := by decide +kernel
theorem dL_fallsBySteps_14 : decode cL_fallsBySteps 14 = .ok (.ireturn, 1) := by decide +kernel
set_option maxRecDepth 20000 in
theorem ggL_burstAt_X9_burstAt : GoodIn wsL_burstAt wsX9_burstAt := goodIn_ca (goodIn_ca (goodIn_r _ [9, 10, 11, 12, 13, 14, 15, 16, 17, 18, 19, 20, 21, 22, 23, 24, 8, 25, 26, 27, 28, 29, 30, 31, 32, 33, 34, 35, 36, 37, 38, 39, 40, 41, 42, 43, 44, 45, 46, 47, 48, 49, 50, 51, 52, 53, 54, 55, 56, 57, 58, 59, 60, 61, 62, 63, 64, 65, 66, 67, 68, 69, 70, 71, 72, 73, 74, 75, 76, 77, 78, 79, 80, 81, 82, 83, 84, 85, 86, 87, 88, 89, 90, 91, 92, 93, 94, 95, 96, 97, 98, 99, 100, 101, 102, 103, 104, 105, 106, 107, 108, 109, 110, 111, 112, 113, 114, 115, 116, 117, 118, 119, 120, 121, 122, 123, 124, 125, 126] (by decide +kernel) (by decide +kernel)) (goodIn_sub (fun _ h => List.mem_cons_of_mem _ (List.mem_append_left _ (List.mem_append_right _ h))) (by decide +kernel))) (goodIn_sub (fun _ h => List.mem_cons_of_mem _ (List.mem_append_right _ h)) (by decide +kernel))
set_option maxRecDepth 20000 in
theorem gL_burstAt_X9_burstAt : GoodIn wsL_burstAt (wsV RL 70 RX9 yX9_burstAt wsX9_burstAt) := goodIn_app (goodIn_of _ (by decide +kernel)) ggL_burstAt_X9_burstAt
theorem dL_burstAt_0 : decode cL_burstAt 0 = .ok (.aload_n 0, 1) := by decide +kernel
theorem dL_burstAt_1 : decode cL_burstAt 1 = .ok (.iload_n 1, 1) := by decide +kernel
theorem dL_burstAt_2 : decode cL_burstAt 2 = .ok (.iload_n 2, 1) := by decide +kernel
theorem dL_burstAt_3 : decode cL_burstAt 3 = .ok (.invokevirtual 70, 3) := by decide +kernel
theorem dL_burstAt_6 : decode cL_burstAt 6 = .ok (.ireturn, 1) := by decide +kernel
theorem dL_burstAt_7 : decode cL_burstAt 7 = .ok (.astore_n 3, 1) := by decide +kernel
theorem dL_burstAt_8 : decode cL_burstAt 8 = .ok (.ldc 51, 2) := by decide +kernel
theorem dL_burstAt_10 : decode cL_burstAt 10 = .ok (.ireturn, 1) := by decide +kernel
theorem dL_burstAt_11 : decode cL_burstAt 11 = .ok (.astore_n 3, 1) := by decide +kernel
theorem dL_burstAt_12 : decode cL_burstAt 12 = .ok (.ldc 18, 2) := by decide +kernel
theorem dL_burstAt_14 : decode cL_burstAt 14 = .ok (.ireturn, 1) := by decide +kernel
set_option maxRecDepth 20000 in
theorem ggL_firing_X9_firing : GoodIn wsL_firing wsX9_firing := goodIn_ca (goodIn_r _ [7, 8, 9, 10, 11, 12, 13, 14, 15, 6, 16, 17, 18, 19, 20, 21, 22, 23, 24, 25, 26, 27, 28, 29, 30, 31, 32, 33, 34, 35, 36, 37, 38, 39, 40, 41, 42, 43, 44, 45, 46, 47, 48, 49, 50, 51, 52, 53, 54, 55, 56, 57, 58, 59, 60, 61, 62, 63, 64, 65, 66, 67, 68, 69, 70, 71, 72, 73, 74, 75, 76, 77, 78, 79, 80, 81, 82, 83, 84, 85, 86, 87, 88, 89, 90, 91, 92, 93, 94, 95, 96, 97, 98, 99, 100, 101, 102, 103, 104, 105, 106, 107, 108, 109, 110, 111, 112, 113, 114, 115, 116, 117, 118, 119, 120, 121, 122, 123, 124, 125, 126, 127, 128, 129, 130, 131, 132, 133, 134, 135, 136, 137, 138, 139, 140, 141, 142, 143, 144, 145, 146, 147, 148, 149, 150, 151, 152, 153, 154, 155, 156, 157, 158, 159, 160, 161, 162, 163, 164, 165, 166, 167, 168, 169, 170, 171, 172, 173, 174, 175, 176, 177, 178] (by decide +kernel) (by decide +kernel)) (goodIn_sub (fun _ h => List.mem_cons_of_mem _ (List.mem_append_right _ h)) (by decide +kernel))
set_option maxRecDepth 20000 in
theorem gL_firing_X9_firing : GoodIn wsL_firing (wsV RL 73 RX9 yX9_firing wsX9_firing) := goodIn_app (goodIn_of _ (by decide +kernel)) ggL_firing_X9_firing
theorem dL_firing_0 : decode cL_firing 0 = .ok (.aload_n 0, 1) := by decide +kernel
theorem dL_firing_1 : decode cL_firing 1 = .ok (.iload_n 1, 1) := by decide +kernel
theorem dL_firing_2 : decode cL_firing 2 = .ok (.invokevirtual 73, 3) := by decide +kernel
theorem dL_firing_5 : decode cL_firing 5 = .ok (.ireturn, 1) := by decide +kernel
theorem dL_firing_6 : decode cL_firing 6 = .ok (.astore_n 2, 1) := by decide +kernel
theorem dL_firing_7 : decode cL_firing 7 = .ok (.ldc 51, 2) := by decide +kernel
theorem dL_firing_9 : decode cL_firing 9 = .ok (.ireturn, 1) := by decide +kernel
set_option maxRecDepth 20000 in
theorem ggL_kill_X9_kill : GoodIn wsL_kill wsX9_kill := goodIn_ca (goodIn_r _ [7, 8, 9, 10, 11, 12, 13, 14, 6, 15, 16, 17, 18, 19, 20, 21, 22, 23, 24, 25, 26, 27, 28, 29, 30, 31, 32, 33, 34] (by decide +kernel) (by decide +kernel)) (goodIn_sub (fun _ h => List.mem_cons_of_mem _ (List.mem_append_right _ h)) (by decide +kernel))
set_option maxRecDepth 20000 in
theorem gL_kill_X9_kill : GoodIn wsL_kill (wsV RL 76 RX9 yX9_kill wsX9_kill) := goodIn_app (goodIn_of _ (by decide +kernel)) ggL_kill_X9_kill
theorem dL_kill_0 : decode cL_kill 0 = .ok (.aload_n 0, 1) := by decide +kernel
theorem dL_kill_1 : decode cL_kill 1 = .ok (.iload_n 1, 1) := by decide +kernel
theorem dL_kill_2 : decode cL_kill 2 = .ok (.iload_n 2, 1) := by decide +kernel
theorem dL_kill_3 : decode cL_kill 3 = .ok (.invokevirtual 76, 3) := by decide +kernel
theorem dL_kill_6 : decode cL_kill 6 = .ok (.ifCond .eq 7, 3) := by decide +kernel
theorem dL_kill_9 : decode cL_kill 9 = .ok (.iconst 1, 1) := by decide +kernel
theorem dL_kill_10 : decode cL_kill 10 = .ok (.goto 4, 3) := by decide +kernel
theorem dL_kill_13 : decode cL_kill 13 = .ok (.iconst 0, 1) := by decide +kernel
theorem dL_kill_14 : decode cL_kill 14 = .ok (.ireturn, 1) := by decide +kernel
theorem dL_kill_15 : decode cL_kill 15 = .ok (.astore_n 3, 1) := by decide +kernel
theorem dL_kill_16 : decode cL_kill 16 = .ok (.ldc 18, 2) := by decide +kernel
theorem dL_kill_18 : decode cL_kill 18 = .ok (.ireturn, 1) := by decide +kernel
set_option maxRecDepth 20000 in
theorem ggL_setGap_X9_setGap : GoodIn wsL_setGap wsX9_setGap := goodIn_ca (goodIn_r _ [7, 8, 9, 10, 11, 12, 13, 14, 6, 15, 16, 17, 18, 19, 20, 21, 22, 23, 24, 25, 26, 27, 28, 29, 30, 31, 32, 33, 34] (by decide +kernel) (by decide +kernel)) (goodIn_sub (fun _ h => List.mem_cons_of_mem _ (List.mem_append_right _ h)) (by decide +kernel))
set_option maxRecDepth 20000 in
theorem gL_setGap_X9_setGap : GoodIn wsL_setGap (wsV RL 80 RX9 yX9_setGap wsX9_setGap) := goodIn_app (goodIn_of _ (by decide +kernel)) ggL_setGap_X9_setGap
theorem dL_setGap_0 : decode cL_setGap 0 = .ok (.aload_n 0, 1) := by decide +kernel
theorem dL_setGap_1 : decode cL_setGap 1 = .ok (.iload_n 1, 1) := by decide +kernel
theorem dL_setGap_2 : decode cL_setGap 2 = .ok (.invokevirtual 80, 3) := by decide +kernel
theorem dL_setGap_5 : decode cL_setGap 5 = .ok (.ireturn, 1) := by decide +kernel
theorem dL_setGap_6 : decode cL_setGap 6 = .ok (.astore_n 2, 1) := by decide +kernel
theorem dL_setGap_7 : decode cL_setGap 7 = .ok (.ldc 18, 2) := by decide +kernel
theorem dL_setGap_9 : decode cL_setGap 9 = .ok (.ireturn, 1) := by decide +kernel
set_option maxRecDepth 20000 in
theorem ggL_channelOf_X9_channelOf : GoodIn wsL_channelOf wsX9_channelOf := goodIn_ca (goodIn_r _ [7, 8, 9, 10, 11, 6, 12, 13, 14, 15, 16, 17, 18, 19, 20, 21, 22, 23, 24, 25, 26, 27, 28, 29, 30, 31, 32, 33, 34, 35, 36, 37, 38, 39, 40, 41, 42, 43, 44, 45, 46, 47, 48, 49, 50, 51, 52, 53, 54, 55, 56, 57, 58, 59, 60, 61, 62, 63, 64, 65, 66, 67, 68, 69, 70, 71, 72, 73, 74, 75, 76, 77, 78, 79, 80, 81, 82, 83, 84, 85, 86, 87, 88, 89, 90, 91, 92, 93, 94, 95, 96, 97, 98, 99, 100, 101, 102, 103, 104, 105, 106, 107, 108, 109, 110, 111, 112, 113, 114, 115, 116, 117, 118, 119, 120, 121, 122, 123, 124, 125, 126, 127, 128, 129, 130, 131, 132, 133, 134, 135, 136, 137, 138, 139, 140, 141, 142, 143, 144, 145, 146, 147, 148, 149, 150, 151, 152, 153, 154, 155, 156, 157, 158, 159, 160, 161, 162, 163, 164, 165, 166, 167, 168, 169, 170, 171, 172, 173, 174, 175, 176, 177, 178, 179, 180, 181, 182, 183, 184, 185, 186, 187, 188, 189] (by decide +kernel) (by decide +kernel)) (goodIn_sub (fun _ h => List.mem_cons_of_mem _ (List.mem_append_right _ h)) (by decide +kernel))
set_option maxRecDepth 20000 in
theorem gL_channelOf_X9_channelOf : GoodIn wsL_channelOf (wsV RL 83 RX9 yX9_channelOf wsX9_channelOf) := goodIn_app (goodIn_of _ (by decide +kernel)) ggL_channelOf_X9_channelOf
theorem dL_channelOf_0 : decode cL_channelOf 0 = .ok (.aload_n 0, 1) := by decide +kernel
theorem dL_channelOf_1 : decode cL_channelOf 1 = .ok (.iload_n 1, 1) := by decide +kernel
theorem dL_channelOf_2 : decode cL_channelOf 2 = .ok (.invokevirtual 83, 3) := by decide +kernel
theorem dL_channelOf_5 : decode cL_channelOf 5 = .ok (.ireturn, 1) := by decide +kernel
theorem dL_channelOf_6 : decode cL_channelOf 6 = .ok (.astore_n 2, 1) := by decide +kernel
theorem dL_channelOf_7 : decode cL_channelOf 7 = .ok (.ldc 51, 2) := by decide +kernel
theorem dL_channelOf_9 : decode cL_channelOf 9 = .ok (.ireturn, 1) := by decide +kernel
set_option maxRecDepth 20000 in
theorem ggL_cueOn_X9_cueOn : GoodIn wsL_cueOn wsX9_cueOn := goodIn_ca (goodIn_r _ [7, 8, 9, 10, 11, 12, 13, 6, 14, 15, 16, 17, 18, 19, 20, 21, 22, 23, 24, 25, 26, 27, 28, 29, 30, 31, 32, 33, 34, 35, 36, 37, 38, 39, 40, 41, 42, 43, 44, 45, 46, 47, 48, 49, 50, 51, 52, 53, 54, 55, 56, 57, 58, 59, 60, 61, 62, 63, 64, 65, 66, 67, 68, 69, 70, 71, 72, 73, 74, 75, 76, 77, 78, 79, 80, 81, 82, 83, 84, 85, 86, 87, 88, 89, 90, 91, 92, 93, 94, 95, 96, 97, 98, 99, 100, 101, 102, 103, 104, 105, 106, 107, 108, 109, 110, 111, 112, 113, 114, 115, 116, 117, 118, 119, 120, 121, 122, 123, 124, 125, 126, 127, 128, 129, 130, 131, 132, 133, 134, 135, 136, 137, 138, 139, 140, 141, 142, 143, 144, 145, 146, 147, 148, 149, 150, 151, 152, 153, 154, 155, 156, 157, 158, 159, 160, 161, 162, 163, 164, 165, 166, 167, 168, 169, 170, 171, 172, 173, 174, 175, 176, 177, 178, 179, 180, 181, 182] (by decide +kernel) (by decide +kernel)) (goodIn_sub (fun _ h => List.mem_cons_of_mem _ (List.mem_append_right _ h)) (by decide +kernel))
set_option maxRecDepth 20000 in
theorem gL_cueOn_X9_cueOn : GoodIn wsL_cueOn (wsV RL 86 RX9 yX9_cueOn wsX9_cueOn) := goodIn_app (goodIn_of _ (by decide +kernel)) ggL_cueOn_X9_cueOn
theorem dL_cueOn_0 : decode cL_cueOn 0 = .ok (.aload_n 0, 1) := by decide +kernel
theorem dL_cueOn_1 : decode cL_cueOn 1 = .ok (.iload_n 1, 1) := by decide +kernel
theorem dL_cueOn_2 : decode cL_cueOn 2 = .ok (.iload_n 2, 1) := by decide +kernel
theorem dL_cueOn_3 : decode cL_cueOn 3 = .ok (.invokevirtual 86, 3) := by decide +kernel
theorem dL_cueOn_6 : decode cL_cueOn 6 = .ok (.ireturn, 1) := by decide +kernel
theorem dL_cueOn_7 : decode cL_cueOn 7 = .ok (.astore_n 3, 1) := by decide +kernel
theorem dL_cueOn_8 : decode cL_cueOn 8 = .ok (.ldc 18, 2) := by decide +kernel
theorem dL_cueOn_10 : decode cL_cueOn 10 = .ok (.ireturn, 1) := by decide +kernel
set_option maxRecDepth 20000 in
theorem ggL_setRate_X9_setRate : GoodIn wsL_setRate wsX9_setRate := goodIn_ca (goodIn_r _ [7, 8, 9, 10, 11, 12, 13, 6, 14, 15, 16, 17, 18, 19, 20, 21, 22, 23, 24, 25, 26, 27, 28, 29] (by decide +kernel) (by decide +kernel)) (goodIn_sub (fun _ h => List.mem_cons_of_mem _ (List.mem_append_right _ h)) (by decide +kernel))
set_option maxRecDepth 20000 in
theorem gL_setRate_X9_setRate : GoodIn wsL_setRate (wsV RL 89 RX9 yX9_setRate wsX9_setRate) := goodIn_app (goodIn_of _ (by decide +kernel)) ggL_setRate_X9_setRate
theorem dL_setRate_0 : decode cL_setRate 0 = .ok (.aload_n 0, 1) := by decide +kernel
theorem dL_setRate_1 : decode cL_setRate 1 = .ok (.iload_n 1, 1) := by decide +kernel
theorem dL_setRate_2 : decode cL_setRate 2 = .ok (.iload_n 2, 1) := by decide +kernel
theorem dL_setRate_3 : decode cL_setRate 3 = .ok (.invokevirtual 89, 3) := by decide +kernel
theorem dL_setRate_6 : decode cL_setRate 6 = .ok (.ireturn, 1) := by decide +kernel
theorem dL_setRate_7 : decode cL_setRate 7 = .ok (.astore_n 3, 1) := by decide +kernel
theorem dL_setRate_8 : decode cL_setRate 8 = .ok (.ldc 18, 2) := by decide +kernel
theorem dL_setRate_10 : decode cL_setRate 10 = .ok (.ireturn, 1) := by decide +kernel
set_option maxRecDepth 20000 in
theorem ggL_price_X9_price : GoodIn wsL_price wsX9_price := goodIn_ca (goodIn_r _ [7, 8, 9, 10, 11, 6, 12, 13, 14, 15, 16, 17, 18, 19, 20, 21, 22, 23, 24, 25, 26, 27, 28, 29, 30, 31, 32, 33, 34, 35, 36, 37, 38, 39, 40, 41, 42, 43, 44, 45, 46, 47, 48, 49, 50, 51, 52, 53, 54, 55, 56, 57, 58, 59, 60, 61, 62, 63, 64, 65, 66, 67, 68, 69, 70, 71, 72, 73, 74, 75, 76, 77, 78, 79, 80, 81, 82, 83, 84, 85, 86, 87, 88, 89, 90, 91, 92, 93, 94, 95, 96, 97, 98, 99, 100, 101, 102, 103, 104, 105, 106, 107, 108, 109, 110, 111, 112, 113, 114, 115, 116, 117, 118, 119, 120, 121, 122, 123, 124, 125, 126, 127, 128, 129, 130, 131, 132, 133, 134, 135, 136, 137, 138, 139, 140, 141, 142, 143, 144, 145, 146, 147, 148, 149, 150, 151, 152, 153, 154, 155, 156, 157, 158, 159, 160, 161, 162, 163, 164, 165, 166, 167, 168, 169, 170, 171, 172, 173, 174, 175, 176, 177, 178, 179, 180, 181, 182, 183, 184, 185, 186, 187, 188, 189, 190, 191, 192, 193, 194, 195, 196, 197, 198, 199, 200, 201, 202, 203] (by decide +kernel) (by decide +kernel)) (goodIn_sub (fun _ h => List.mem_cons_of_mem _ (List.mem_append_right _ h)) (by decide +kernel))
set_option maxRecDepth 20000 in
theorem gL_price_X9_price : GoodIn wsL_price (wsV RL 92 RX9 yX9_price wsX9_price) := goodIn_app (goodIn_of _ (by decide +kernel)) ggL_price_X9_price
theorem dL_price_0 : decode cL_price 0 = .ok (.aload_n 0, 1) := by decide +kernel
theorem dL_price_1 : decode cL_price 1 = .ok (.iload_n 1, 1) := by decide +kernel
theorem dL_price_2 : decode cL_price 2 = .ok (.invokevirtual 92, 3) := by decide +kernel
theorem dL_price_5 : decode cL_price 5 = .ok (.ireturn, 1) := by decide +kernel
theorem dL_price_6 : decode cL_price 6 = .ok (.astore_n 2, 1) := by decide +kernel
theorem dL_price_7 : decode cL_price 7 = .ok (.ldc 51, 2) := by decide +kernel
theorem dL_price_9 : decode cL_price 9 = .ok (.ireturn, 1) := by decide +kernel
set_option maxRecDepth 20000 in
theorem ggL_danger_X9_danger : GoodIn wsL_danger wsX9_danger := goodIn_ca (goodIn_r _ [7, 8, 9, 10, 11, 6, 12, 13, 14, 15, 16, 17, 18, 19, 20, 21, 22, 23, 24, 25, 26, 27, 28, 29, 30, 31, 32, 33, 34, 35, 36, 37, 38, 39, 40, 41, 42, 43, 44, 45, 46, 47, 48, 49, 50, 51, 52, 53, 54, 55, 56, 57, 58, 59, 60, 61, 62, 63, 64, 65, 66, 67, 68, 69, 70, 71, 72, 73, 74, 75, 76, 77, 78, 79, 80, 81, 82, 83, 84, 85, 86, 87, 88, 89, 90, 91, 92, 93, 94, 95, 96, 97, 98, 99, 100, 101, 102, 103, 104, 105, 106, 107, 108, 109, 110, 111, 112, 113, 114, 115, 116, 117, 118, 119, 120, 121, 122, 123, 124, 125, 126, 127, 128, 129, 130, 131, 132, 133, 134, 135, 136, 137, 138, 139, 140, 141, 142, 143, 144, 145, 146, 147, 148, 149, 150, 151, 152, 153, 154, 155, 156, 157, 158, 159, 160, 161, 162, 163, 164, 165, 166, 167, 168, 169, 170, 171, 172, 173, 174, 175, 176, 177, 178, 179, 180, 181, 182, 183, 184, 185, 186, 187, 188, 189] (by decide +kernel) (by decide +kernel)) (goodIn_sub (fun _ h => List.mem_cons_of_mem _ (List.mem_append_right _ h)) (by decide +kernel))
set_option maxRecDepth 20000 in
theorem gL_danger_X9_danger : GoodIn wsL_danger (wsV RL 95 RX9 yX9_danger wsX9_danger) := goodIn_app (goodIn_of _ (by decide +kernel)) ggL_danger_X9_danger
theorem dL_danger_0 : decode cL_danger 0 = .ok (.aload_n 0, 1) := by decide +kernel
theorem dL_danger_1 : decode cL_danger 1 = .ok (.iload_n 1, 1) := by decide +kernel
theorem dL_danger_2 : decode cL_danger 2 = .ok (.invokevirtual 95, 3) := by decide +kernel
theorem dL_danger_5 : decode cL_danger 5 = .ok (.lreturn, 1) := by decide +kernel
theorem dL_danger_6 : decode cL_danger 6 = .ok (.astore_n 2, 1) := by decide +kernel
theorem dL_danger_7 : decode cL_danger 7 = .ok (.ldc2_w 99, 3) := by decide +kernel
theorem dL_danger_10 : decode cL_danger 10 = .ok (.lreturn, 1) := by decide +kernel
theorem dL_down_0 : decode cL_down 0 = .ok (.iload_n 0, 1) := by decide +kernel
theorem dL_down_1 : decode cL_down 1 = .ok (.iload_n 0, 1) := by decide +kernel
theorem dL_down_2 : decode cL_down 2 = .ok (.bipush 100, 2) := by decide +kernel
theorem dL_down_4 : decode cL_down 4 = .ok (.irem, 1) := by decide +kernel
theorem dL_down_5 : decode cL_down 5 = .ok (.bipush 100, 2) := by decide +kernel
theorem dL_down_7 : decode cL_down 7 = .ok (.iadd, 1) := by decide +kernel
theorem dL_down_8 : decode cL_down 8 = .ok (.bipush 100, 2) := by decide +kernel
theorem dL_down_10 : decode cL_down 10 = .ok (.irem, 1) := by decide +kernel
theorem dL_down_11 : decode cL_down 11 = .ok (.isub, 1) := by decide +kernel
theorem dL_down_12 : decode cL_down 12 = .ok (.bipush 100, 2) := by decide +kernel
theorem dL_down_14 : decode cL_down 14 = .ok (.idiv, 1) := by decide +kernel
theorem dL_down_15 : decode cL_down 15 = .ok (.ireturn, 1) := by decide +kernel
set_option maxRecDepth 20000 in
theorem ggL_isCue_L_becomes : GoodIn wsL_isCue wsL_becomes := goodIn_ca (goodIn_r _ [7, 8, 1, 9, 10, 11, 12, 13, 14, 15, 16, 17, 18, 19, 20, 21, 22, 23, 24, 25, 26, 27, 28, 29, 30, 31, 32, 33, 34, 35, 36, 37, 38, 39, 40, 41, 42, 43, 44, 45, 46, 47, 48, 49, 50, 51, 52, 53, 54, 55, 56, 57, 58, 59, 60, 61, 62, 63, 64, 65, 66, 67, 68, 69, 70, 71, 72, 73, 74, 75, 76, 77, 78, 79, 80, 81, 82, 83, 84, 85, 86, 87, 88, 89, 90, 91, 92, 93, 94, 95, 96, 97, 98, 99, 100, 101, 102, 103, 104, 105, 106, 107, 108, 109, 110, 111, 112, 113, 114, 115, 116, 117, 118, 119, 120, 121, 122, 123, 124, 125, 126, 127, 128, 129, 130, 131, 132, 133, 134, 135, 136, 137, 138, 139, 140, 141, 142, 143, 144, 145, 146, 147, 148, 149, 150, 276, 277, 278, 279, 280, 281, 282, 283, 284, 285, 286, 287, 288, 289, 290, 291, 292, 293, 294, 295, 296, 297, 298, 299, 300, 301, 302, 303, 304, 305, 306, 307, 308, 309, 310, 311, 312, 313, 314, 315, 316, 317, 318, 319, 320] (by decide +kernel) (by decide +kernel)) (goodIn_sub (fun _ h => List.mem_cons_of_mem _ (List.mem_append_left _ (List.mem_append_right _ h))) (by decide +kernel))
set_option maxRecDepth 20000 in
theorem gL_isCue_L_becomes : GoodIn wsL_isCue (va_wsS RL 101 yL_becomes wsL_becomes) := goodIn_app (goodIn_of _ (by decide +kernel)) ggL_isCue_L_becomes
set_option maxRecDepth 20000 in
theorem ggL_isCue_L_bursts : GoodIn wsL_isCue wsL_bursts := goodIn_ca (goodIn_r _ [153, 8, 1, 154, 155, 156, 12, 157, 118, 15, 16, 17, 18, 19, 20, 21, 22, 23, 24, 25, 26, 27, 28, 29, 30, 31, 32, 33, 34, 35, 36, 37, 38, 39, 40, 41, 42, 14, 43, 44, 45, 46, 47, 48, 49, 50, 51, 52, 53, 54, 55, 56, 57, 58, 59, 60, 61, 62, 63, 64, 65, 66, 67, 68, 69, 70, 71, 72, 73, 74, 75, 76, 77, 78, 79, 80, 81, 82, 83, 84, 85, 86, 87, 88, 89, 90, 91, 92, 93, 94, 95, 96, 97, 98, 99, 100, 101, 102, 103, 104, 105, 106, 107, 108, 109, 110, 111, 112, 113, 114, 115, 116, 117, 119, 120, 121, 122, 123, 124, 125, 126, 127, 128, 129, 130, 131, 132, 133, 134, 135, 136, 137, 138, 139, 140, 141, 142, 143, 144, 145, 146, 147, 148, 149, 150, 276, 277, 278, 279, 280, 281, 282, 283, 284, 285, 286, 287, 288, 289, 290, 291, 292, 293, 294, 295, 296, 297, 298, 299, 300, 301, 302, 303, 304, 305, 306, 307, 308, 309, 310, 311, 312, 313, 314, 315, 316, 317, 318, 319, 320] (by decide +kernel) (by decide +kernel)) (goodIn_sub (fun _ h => List.mem_cons_of_mem _ (List.mem_append_left _ (List.mem_append_right _ h))) (by decide +kernel))
set_option maxRecDepth 20000 in
theorem gL_isCue_L_bursts : GoodIn wsL_isCue (va_wsS RL 106 yL_bursts wsL_bursts) := goodIn_app (goodIn_of _ (by decide +kernel)) ggL_isCue_L_bursts
set_option maxRecDepth 20000 in
theorem ggL_isCue_L_fires : GoodIn wsL_isCue wsL_fires := goodIn_ca (goodIn_r _ [160, 8, 1, 161, 162, 163, 12, 164, 120, 15, 16, 17, 18, 19, 20, 21, 22, 23, 24, 25, 26, 27, 28, 29, 30, 31, 32, 33, 34, 35, 36, 37, 38, 39, 40, 41, 42, 14, 43, 44, 45, 46, 47, 48, 49, 50, 51, 52, 53, 54, 55, 56, 57, 58, 59, 60, 61, 62, 63, 64, 65, 66, 67, 68, 69, 70, 71, 72, 73, 74, 75, 76, 77, 78, 79, 80, 81, 82, 83, 84, 85, 86, 87, 88, 89, 90, 91, 92, 93, 94, 95, 96, 97, 98, 99, 100, 101, 102, 103, 104, 105, 106, 107, 108, 109, 110, 111, 112, 113, 114, 115, 116, 117, 118, 119, 121, 122, 123, 124, 125, 126, 127, 128, 129, 130, 131, 132, 133, 134, 135, 136, 137, 138, 139, 140, 141, 142, 143, 144, 145, 146, 147, 148, 149, 150, 276, 277, 278, 279, 280, 281, 282, 283, 284, 285, 286, 287, 288, 289, 290, 291, 292, 293, 294, 295, 296, 297, 298, 299, 300, 301, 302, 303, 304, 305, 306, 307, 308, 309, 310, 311, 312, 313, 314, 315, 316, 317, 318, 319, 320] (by decide +kernel) (by decide +kernel)) (goodIn_sub (fun _ h => List.mem_cons_of_mem _ (List.mem_append_left _ (List.mem_append_right _ h))) (by decide +kernel))
set_option maxRecDepth 20000 in
theorem gL_isCue_L_fires : GoodIn wsL_isCue (va_wsS RL 108 yL_fires wsL_fires) := goodIn_app (goodIn_of _ (by decide +kernel)) ggL_isCue_L_fires
set_option maxRecDepth 20000 in
theorem ggL_isCue_L_falls : GoodIn wsL_isCue wsL_falls := goodIn_ca (goodIn_ca (goodIn_r _ [167, 8, 168, 1, 3, 169, 170, 171, 12, 172, 173, 174, 19, 20, 21, 22, 23, 24, 25, 26, 27, 28, 49, 50, 51, 52, 53, 40, 54, 55, 56, 57, 58, 59, 60, 61, 62, 63, 64, 65, 66, 67, 72, 73, 74, 75, 76, 77, 78, 79, 80, 81, 175, 176, 177, 68, 69, 70, 71, 285, 286, 287, 288, 289, 290, 291, 292, 293, 294, 295, 296, 297, 298, 299, 276, 277, 278, 279, 280, 281, 282, 283, 284, 309, 310, 311, 312, 300, 301, 302, 303, 304, 305, 306] (by decide +kernel) (by decide +kernel)) (goodIn_sub (fun _ h => List.mem_cons_of_mem _ (List.mem_append_right _ h)) (by decide +kernel))) (goodIn_sub (fun _ h => List.mem_cons_of_mem _ (List.mem_append_left _ (List.mem_append_right _ h))) (by decide +kernel))
set_option maxRecDepth 20000 in
theorem gL_isCue_L_falls : GoodIn wsL_isCue (va_wsS RL 110 yL_falls wsL_falls) := goodIn_app (goodIn_of _ (by decide +kernel)) ggL_isCue_L_falls
set_option maxRecDepth 20000 in
theorem ggL_isCue_L_fallsBySteps : GoodIn wsL_isCue wsL_fallsBySteps := goodIn_ca (goodIn_ca (goodIn_r _ [180, 8, 168, 1, 3, 181, 182, 183, 12, 184, 173, 174, 185, 40, 53, 186, 187, 188, 54, 189, 190, 19, 20, 21, 22, 23, 24, 25, 26, 27, 28, 191, 192, 193, 194, 195, 196, 197, 198, 199, 200, 201, 202, 203, 204, 205, 206, 207, 208, 209, 210, 211, 57, 58, 59, 60, 61, 212, 78, 79, 80, 81, 213, 214, 215, 216, 217, 218, 219, 220, 221, 222, 223, 90, 87, 91, 224, 86, 88, 225, 226, 227, 228, 175, 176, 177, 68, 69, 70, 71, 285, 286, 287, 288, 289, 290, 291, 292, 293, 294, 295, 296, 297, 298, 299, 276, 277, 278, 279, 280, 281, 282, 283, 284, 321, 322, 323, 324, 325, 326, 327, 328, 300, 301, 302, 303, 304, 305, 306, 311, 312, 309, 310] (by decide +kernel) (by decide +kernel)) (goodIn_sub (fun _ h => List.mem_cons_of_mem _ (List.mem_append_right _ h)) (by decide +kernel))) (goodIn_sub (fun _ h => List.mem_cons_of_mem _ (List.mem_append_left _ (List.mem_append_right _ h))) (by decide +kernel))
set_option maxRecDepth 20000 in
theorem gL_isCue_L_fallsBySteps : GoodIn wsL_isCue (va_wsS RL 113 yL_fallsBySteps wsL_fallsBySteps) := goodIn_app (goodIn_of _ (by decide +kernel)) ggL_isCue_L_fallsBySteps
set_option maxRecDepth 20000 in
theorem ggL_isCue_L_burstAt : GoodIn wsL_isCue wsL_burstAt := goodIn_ca (goodIn_ca (goodIn_r _ [231, 8, 168, 1, 3, 232, 233, 234, 12, 235, 173, 174, 185, 40, 53, 186, 187, 236, 54, 237, 189, 190, 19, 20, 21, 22, 23, 24, 25, 26, 27, 28, 191, 192, 193, 194, 195, 196, 197, 198, 199, 200, 201, 202, 203, 204, 205, 206, 207, 208, 209, 210, 211, 57, 58, 59, 60, 61, 212, 78, 79, 80, 81, 213, 214, 215, 216, 217, 218, 219, 220, 221, 222, 223, 90, 87, 91, 224, 86, 88, 225, 226, 227, 228, 285, 286, 287, 288, 289, 290, 291, 292, 293, 294, 295, 296, 297, 298, 299, 276, 277, 278, 279, 280, 281, 282, 283, 284, 321, 322, 323, 324, 325, 326, 327, 328, 300, 301, 302, 303, 304, 305, 306, 311, 312, 309, 310] (by decide +kernel) (by decide +kernel)) (goodIn_sub (fun _ h => List.mem_cons_of_mem _ (List.mem_append_right _ h)) (by decide +kernel))) (goodIn_sub (fun _ h => List.mem_cons_of_mem _ (List.mem_append_left _ (List.mem_append_right _ h))) (by decide +kernel))
set_option maxRecDepth 20000 in
theorem gL_isCue_L_burstAt : GoodIn wsL_isCue (va_wsS RL 115 yL_burstAt wsL_burstAt) := goodIn_app (goodIn_of _ (by decide +kernel)) ggL_isCue_L_burstAt
set_option maxRecDepth 20000 in
theorem ggL_isCue_L_danger : GoodIn wsL_isCue wsL_danger := goodIn_ca (goodIn_r _ [240, 8, 2, 241, 242, 243, 12, 244, 42, 15, 16, 17, 18, 19, 20, 21, 22, 23, 24, 25, 26, 27, 28, 29, 30, 31, 32, 33, 34, 35, 36, 37, 38, 39, 40, 41, 14, 43, 44, 45, 46, 47, 48, 49, 50, 51, 52, 53, 54, 55, 56, 57, 58, 59, 60, 61, 62, 63, 64, 65, 66, 67, 68, 69, 70, 71, 72, 73, 74, 75, 76, 77, 78, 79, 80, 81, 82, 83, 84, 85, 86, 87, 88, 89, 90, 91, 92, 93, 94, 95, 96, 97, 98, 99, 100, 101, 102, 103, 104, 105, 106, 107, 108, 109, 110, 111, 112, 113, 114, 115, 116, 117, 118, 119, 120, 121, 122, 123, 124, 125, 126, 127, 128, 129, 130, 131, 132, 133, 134, 135, 136, 137, 138, 139, 140, 141, 142, 143, 144, 145, 146, 147, 148, 149, 150, 276, 277, 278, 279, 280, 281, 282, 283, 284, 285, 286, 287, 288, 289, 290, 291, 292, 293, 294, 295, 296, 297, 298, 299, 300, 301, 302, 303, 304, 305, 306, 307, 308, 309, 310, 311, 312, 313, 314, 315, 316, 317, 318, 319, 320] (by decide +kernel) (by decide +kernel)) (goodIn_sub (fun _ h => List.mem_cons_of_mem _ (List.mem_append_left _ (List.mem_append_right _ h))) (by decide +kernel))
set_option maxRecDepth 20000 in
theorem gL_isCue_L_danger : GoodIn wsL_isCue (va_wsS RL 117 yL_danger wsL_danger) := goodIn_app (goodIn_of _ (by decide +kernel)) ggL_isCue_L_danger
set_option maxRecDepth 20000 in
theorem ggL_isCue_L_channelOf : GoodIn wsL_isCue wsL_channelOf := goodIn_ca (goodIn_r _ [247, 8, 1, 248, 249, 250, 12, 251, 121, 15, 16, 17, 18, 19, 20, 21, 22, 23, 24, 25, 26, 27, 28, 29, 30, 31, 32, 33, 34, 35, 36, 37, 38, 39, 40, 41, 42, 14, 43, 44, 45, 46, 47, 48, 49, 50, 51, 52, 53, 54, 55, 56, 57, 58, 59, 60, 61, 62, 63, 64, 65, 66, 67, 68, 69, 70, 71, 72, 73, 74, 75, 76, 77, 78, 79, 80, 81, 82, 83, 84, 85, 86, 87, 88, 89, 90, 91, 92, 93, 94, 95, 96, 97, 98, 99, 100, 101, 102, 103, 104, 105, 106, 107, 108, 109, 110, 111, 112, 113, 114, 115, 116, 117, 118, 119, 120, 122, 123, 124, 125, 126, 127, 128, 129, 130, 131, 132, 133, 134, 135, 136, 137, 138, 139, 140, 141, 142, 143, 144, 145, 146, 147, 148, 149, 150, 276, 277, 278, 279, 280, 281, 282, 283, 284, 285, 286, 287, 288, 289, 290, 291, 292, 293, 294, 295, 296, 297, 298, 299, 300, 301, 302, 303, 304, 305, 306, 307, 308, 309, 310, 311, 312, 313, 314, 315, 316, 317, 318, 319, 320] (by decide +kernel) (by decide +kernel)) (goodIn_sub (fun _ h => List.mem_cons_of_mem _ (List.mem_append_left _ (List.mem_append_right _ h))) (by decide +kernel))
set_option maxRecDepth 20000 in
theorem gL_isCue_L_channelOf : GoodIn wsL_isCue (va_wsS RL 120 yL_channelOf wsL_channelOf) := goodIn_app (goodIn_of _ (by decide +kernel)) ggL_isCue_L_channelOf
set_option maxRecDepth 20000 in
theorem ggL_isCue_L_price : GoodIn wsL_isCue wsL_price := goodIn_ca (goodIn_r _ [254, 8, 1, 255, 256, 257, 12, 258, 14, 15, 16, 17, 18, 19, 20, 21, 22, 23, 24, 25, 26, 27, 28, 29, 30, 31, 32, 33, 34, 35, 36, 37, 38, 39, 40, 41, 42, 43, 44, 45, 46, 47, 48, 49, 50, 51, 52, 53, 54, 55, 56, 57, 58, 59, 60, 61, 62, 63, 64, 65, 66, 67, 68, 69, 70, 71, 72, 73, 74, 75, 76, 77, 78, 79, 80, 81, 82, 83, 84, 85, 86, 87, 88, 89, 90, 91, 92, 93, 94, 95, 96, 97, 98, 99, 100, 101, 102, 103, 104, 105, 106, 107, 108, 109, 110, 111, 112, 113, 114, 115, 116, 117, 118, 119, 120, 121, 122, 123, 124, 125, 126, 127, 128, 129, 130, 131, 132, 133, 134, 135, 136, 137, 138, 139, 140, 141, 142, 143, 144, 145, 146, 147, 148, 149, 150, 259, 260, 261, 262, 263, 264, 265, 266, 267, 268, 269, 270, 271, 272, 276, 277, 278, 279, 280, 281, 282, 283, 284, 285, 286, 287, 288, 289, 290, 291, 292, 293, 294, 295, 296, 297, 298, 299, 300, 301, 302, 303, 304, 305, 306, 307, 308, 309, 310, 311, 312, 313, 314, 315, 316, 317, 318, 319, 320] (by decide +kernel) (by decide +kernel)) (goodIn_sub (fun _ h => List.mem_cons_of_mem _ (List.mem_append_left _ (List.mem_append_right _ h))) (by decide +kernel))
set_option maxRecDepth 20000 in
theorem gL_isCue_L_price : GoodIn wsL_isCue (va_wsS RL 122 yL_price wsL_price) := goodIn_app (goodIn_of _ (by decide +kernel)) ggL_isCue_L_price
set_option maxRecDepth 20000 in
theorem ggL_isCue_L_down : GoodIn wsL_isCue wsL_down := goodIn_r _ [275] (by decide +kernel) (by decide +kernel)
set_option maxRecDepth 20000 in
theorem gL_isCue_L_down : GoodIn wsL_isCue (va_wsS RL 124 yL_down wsL_down) := goodIn_app (goodIn_of _ (by decide +kernel)) ggL_isCue_L_down
theorem dL_isCue_0 : decode cL_isCue 0 = .ok (.iload 5, 2) := by decide +kernel
theorem dL_isCue_2 : decode cL_isCue 2 = .ok (.ifCond .lt 22, 3) := by decide +kernel
theorem dL_isCue_5 : decode cL_isCue 5 = .ok (.iload 5, 2) := by decide +kernel
theorem dL_isCue_7 : decode cL_isCue 7 = .ok (.aload 4, 2) := by decide +kernel
theorem dL_isCue_9 : decode cL_isCue 9 = .ok (.iconst 0, 1) := by decide +kernel
theorem dL_isCue_10 : decode cL_isCue 10 = .ok (.iaload, 1) := by decide +kernel
theorem dL_isCue_11 : decode cL_isCue 11 = .ok (.if_icmp .ge 13, 3) := by decide +kernel
theorem dL_isCue_14 : decode cL_isCue 14 = .ok (.aload_n 1, 1) := by decide +kernel
theorem dL_isCue_15 : decode cL_isCue 15 = .ok (.iload 5, 2) := by decide +kernel
theorem dL_isCue_17 : decode cL_isCue 17 = .ok (.iaload, 1) := by decide +kernel
theorem dL_isCue_18 : decode cL_isCue 18 = .ok (.sipush 4095, 3) := by decide +kernel
theorem dL_isCue_21 : decode cL_isCue 21 = .ok (.if_icmp .le 116, 3) := by decide +kernel
theorem dL_isCue_24 : decode cL_isCue 24 = .ok (.aload_n 0, 1) := by decide +kernel
theorem dL_isCue_25 : decode cL_isCue 25 = .ok (.iload 5, 2) := by decide +kernel
theorem dL_isCue_27 : decode cL_isCue 27 = .ok (.invokestatic 101, 3) := by decide +kernel
theorem dL_isCue_30 : decode cL_isCue 30 = .ok (.ldc 51, 2) := by decide +kernel
theorem dL_isCue_32 : decode cL_isCue 32 = .ok (.if_icmp .ne 103, 3) := by decide +kernel
theorem dL_isCue_35 : decode cL_isCue 35 = .ok (.aload_n 0, 1) := by decide +kernel
theorem dL_isCue_36 : decode cL_isCue 36 = .ok (.iload 5, 2) := by decide +kernel
theorem dL_isCue_38 : decode cL_isCue 38 = .ok (.invokestatic 106, 3) := by decide +kernel
theorem dL_isCue_41 : decode cL_isCue 41 = .ok (.ldc 51, 2) := by decide +kernel
theorem dL_isCue_43 : decode cL_isCue 43 = .ok (.if_icmp .ne 92, 3) := by decide +kernel
theorem dL_isCue_46 : decode cL_isCue 46 = .ok (.aload_n 0, 1) := by decide +kernel
theorem dL_isCue_47 : decode cL_isCue 47 = .ok (.iload 5, 2) := by decide +kernel
theorem dL_isCue_49 : decode cL_isCue 49 = .ok (.invokestatic 108, 3) := by decide +kernel
theorem dL_isCue_52 : decode cL_isCue 52 = .ok (.ldc 51, 2) := by decide +kernel
theorem dL_isCue_54 : decode cL_isCue 54 = .ok (.if_icmp .ne 81, 3) := by decide +kernel
theorem dL_isCue_57 : decode cL_isCue 57 = .ok (.aload_n 0, 1) := by decide +kernel
theorem dL_isCue_58 : decode cL_isCue 58 = .ok (.iload 5, 2) := by decide +kernel
theorem dL_isCue_60 : decode cL_isCue 60 = .ok (.bipush 9, 2) := by decide +kernel
theorem dL_isCue_62 : decode cL_isCue 62 = .ok (.invokestatic 110, 3) := by decide +kernel
theorem dL_isCue_65 : decode cL_isCue 65 = .ok (.ldc 51, 2) := by decide +kernel
theorem dL_isCue_67 : decode cL_isCue 67 = .ok (.if_icmp .ne 68, 3) := by decide +kernel
theorem dL_isCue_70 : decode cL_isCue 70 = .ok (.aload_n 0, 1) := by decide +kernel
theorem dL_isCue_71 : decode cL_isCue 71 = .ok (.iload 5, 2) := by decide +kernel
theorem dL_isCue_73 : decode cL_isCue 73 = .ok (.bipush 9, 2) := by decide +kernel
theorem dL_isCue_75 : decode cL_isCue 75 = .ok (.invokestatic 113, 3) := by decide +kernel
theorem dL_isCue_78 : decode cL_isCue 78 = .ok (.ldc 51, 2) := by decide +kernel
theorem dL_isCue_80 : decode cL_isCue 80 = .ok (.if_icmp .ne 55, 3) := by decide +kernel
theorem dL_isCue_83 : decode cL_isCue 83 = .ok (.aload_n 0, 1) := by decide +kernel
theorem dL_isCue_84 : decode cL_isCue 84 = .ok (.iload 5, 2) := by decide +kernel
theorem dL_isCue_86 : decode cL_isCue 86 = .ok (.bipush 9, 2) := by decide +kernel
theorem dL_isCue_88 : decode cL_isCue 88 = .ok (.invokestatic 115, 3) := by decide +kernel
theorem dL_isCue_91 : decode cL_isCue 91 = .ok (.ldc 51, 2) := by decide +kernel
theorem dL_isCue_93 : decode cL_isCue 93 = .ok (.if_icmp .ne 42, 3) := by decide +kernel
theorem dL_isCue_96 : decode cL_isCue 96 = .ok (.aload_n 0, 1) := by decide +kernel
theorem dL_isCue_97 : decode cL_isCue 97 = .ok (.iload 5, 2) := by decide +kernel
theorem dL_isCue_99 : decode cL_isCue 99 = .ok (.invokestatic 117, 3) := by decide +kernel
theorem dL_isCue_102 : decode cL_isCue 102 = .ok (.ldc2_w 99, 3) := by decide +kernel
theorem dL_isCue_105 : decode cL_isCue 105 = .ok (.lcmp, 1) := by decide +kernel
theorem dL_isCue_106 : decode cL_isCue 106 = .ok (.ifCond .ne 29, 3) := by decide +kernel
theorem dL_isCue_109 : decode cL_isCue 109 = .ok (.aload_n 0, 1) := by decide +kernel
theorem dL_isCue_110 : decode cL_isCue 110 = .ok (.iload 5, 2) := by decide +kernel
theorem dL_isCue_112 : decode cL_isCue 112 = .ok (.invokestatic 120, 3) := by decide +kernel
theorem dL_isCue_115 : decode cL_isCue 115 = .ok (.ldc 51, 2) := by decide +kernel
theorem dL_isCue_117 : decode cL_isCue 117 = .ok (.if_icmp .ne 18, 3) := by decide +kernel
theorem dL_isCue_120 : decode cL_isCue 120 = .ok (.aload_n 0, 1) := by decide +kernel
theorem dL_isCue_121 : decode cL_isCue 121 = .ok (.iload 5, 2) := by decide +kernel
theorem dL_isCue_123 : decode cL_isCue 123 = .ok (.invokestatic 122, 3) := by decide +kernel
theorem dL_isCue_126 : decode cL_isCue 126 = .ok (.ldc 51, 2) := by decide +kernel
theorem dL_isCue_128 : decode cL_isCue 128 = .ok (.if_icmp .ne 7, 3) := by decide +kernel
theorem dL_isCue_131 : decode cL_isCue 131 = .ok (.iconst 1, 1) := by decide +kernel
theorem dL_isCue_132 : decode cL_isCue 132 = .ok (.goto 4, 3) := by decide +kernel
theorem dL_isCue_135 : decode cL_isCue 135 = .ok (.iconst 0, 1) := by decide +kernel
theorem dL_isCue_136 : decode cL_isCue 136 = .ok (.ireturn, 1) := by decide +kernel
theorem dL_isCue_137 : decode cL_isCue 137 = .ok (.aload_n 1, 1) := by decide +kernel
theorem dL_isCue_138 : decode cL_isCue 138 = .ok (.iload 5, 2) := by decide +kernel
theorem dL_isCue_140 : decode cL_isCue 140 = .ok (.iaload, 1) := by decide +kernel
theorem dL_isCue_141 : decode cL_isCue 141 = .ok (.sipush 128, 3) := by decide +kernel
theorem dL_isCue_144 : decode cL_isCue 144 = .ok (.idiv, 1) := by decide +kernel
theorem dL_isCue_145 : decode cL_isCue 145 = .ok (.iconst 4, 1) := by decide +kernel
theorem dL_isCue_146 : decode cL_isCue 146 = .ok (.irem, 1) := by decide +kernel
theorem dL_isCue_147 : decode cL_isCue 147 = .ok (.istore 6, 2) := by decide +kernel
theorem dL_isCue_149 : decode cL_isCue 149 = .ok (.aload_n 2, 1) := by decide +kernel
theorem dL_isCue_150 : decode cL_isCue 150 = .ok (.iload 6, 2) := by decide +kernel
theorem dL_isCue_152 : decode cL_isCue 152 = .ok (.iaload, 1) := by decide +kernel
theorem dL_isCue_153 : decode cL_isCue 153 = .ok (.bipush 32, 2) := by decide +kernel
theorem dL_isCue_155 : decode cL_isCue 155 = .ok (.idiv, 1) := by decide +kernel
theorem dL_isCue_156 : decode cL_isCue 156 = .ok (.istore 7, 2) := by decide +kernel
theorem dL_isCue_158 : decode cL_isCue 158 = .ok (.aload_n 0, 1) := by decide +kernel
theorem dL_isCue_159 : decode cL_isCue 159 = .ok (.iload 5, 2) := by decide +kernel
theorem dL_isCue_161 : decode cL_isCue 161 = .ok (.iconst 2, 1) := by decide +kernel
theorem dL_isCue_162 : decode cL_isCue 162 = .ok (.invokestatic 110, 3) := by decide +kernel
theorem dL_isCue_165 : decode cL_isCue 165 = .ok (.istore 8, 2) := by decide +kernel
theorem dL_isCue_167 : decode cL_isCue 167 = .ok (.aload_n 0, 1) := by decide +kernel
theorem dL_isCue_168 : decode cL_isCue 168 = .ok (.iload 5, 2) := by decide +kernel
theorem dL_isCue_170 : decode cL_isCue 170 = .ok (.iconst 3, 1) := by decide +kernel
theorem dL_isCue_171 : decode cL_isCue 171 = .ok (.invokestatic 110, 3) := by decide +kernel
theorem dL_isCue_174 : decode cL_isCue 174 = .ok (.istore 9, 2) := by decide +kernel
theorem dL_isCue_176 : decode cL_isCue 176 = .ok (.lconst 0, 1) := by decide +kernel
theorem dL_isCue_177 : decode cL_isCue 177 = .ok (.lstore 10, 2) := by decide +kernel
theorem dL_isCue_179 : decode cL_isCue 179 = .ok (.iconst 0, 1) := by decide +kernel
theorem dL_isCue_180 : decode cL_isCue 180 = .ok (.istore 12, 2) := by decide +kernel
theorem dL_isCue_182 : decode cL_isCue 182 = .ok (.iconst 0, 1) := by decide +kernel
theorem dL_isCue_183 : decode cL_isCue 183 = .ok (.istore 13, 2) := by decide +kernel
theorem dL_isCue_185 : decode cL_isCue 185 = .ok (.iload 13, 2) := by decide +kernel
theorem dL_isCue_187 : decode cL_isCue 187 = .ok (.bipush 64, 2) := by decide +kernel
theorem dL_isCue_189 : decode cL_isCue 189 = .ok (.if_icmp .ge 110, 3) := by decide +kernel
theorem dL_isCue_192 : decode cL_isCue 192 = .ok (.iload 13, 2) := by decide +kernel
theorem dL_isCue_194 : decode cL_isCue 194 = .ok (.bipush 8, 2) := by decide +kernel
theorem dL_isCue_196 : decode cL_isCue 196 = .ok (.irem, 1) := by decide +kernel
theorem dL_isCue_197 : decode cL_isCue 197 = .ok (.iload 8, 2) := by decide +kernel
theorem dL_isCue_199 : decode cL_isCue 199 = .ok (.isub, 1) := by decide +kernel
theorem dL_isCue_200 : decode cL_isCue 200 = .ok (.iload 7, 2) := by decide +kernel
theorem dL_isCue_202 : decode cL_isCue 202 = .ok (.if_icmp .gt 46, 3) := by decide +kernel
theorem dL_isCue_205 : decode cL_isCue 205 = .ok (.iload 8, 2) := by decide +kernel
theorem dL_isCue_207 : decode cL_isCue 207 = .ok (.iload 13, 2) := by decide +kernel
theorem dL_isCue_209 : decode cL_isCue 209 = .ok (.bipush 8, 2) := by decide +kernel
theorem dL_isCue_211 : decode cL_isCue 211 = .ok (.irem, 1) := by decide +kernel
theorem dL_isCue_212 : decode cL_isCue 212 = .ok (.isub, 1) := by decide +kernel
theorem dL_isCue_213 : decode cL_isCue 213 = .ok (.iload 7, 2) := by decide +kernel
theorem dL_isCue_215 : decode cL_isCue 215 = .ok (.if_icmp .gt 33, 3) := by decide +kernel
theorem dL_isCue_218 : decode cL_isCue 218 = .ok (.iload 13, 2) := by decide +kernel
theorem dL_isCue_220 : decode cL_isCue 220 = .ok (.bipush 8, 2) := by decide +kernel
theorem dL_isCue_222 : decode cL_isCue 222 = .ok (.idiv, 1) := by decide +kernel
theorem dL_isCue_223 : decode cL_isCue 223 = .ok (.iload 9, 2) := by decide +kernel
theorem dL_isCue_225 : decode cL_isCue 225 = .ok (.isub, 1) := by decide +kernel
theorem dL_isCue_226 : decode cL_isCue 226 = .ok (.iload 7, 2) := by decide +kernel
theorem dL_isCue_228 : decode cL_isCue 228 = .ok (.if_icmp .gt 20, 3) := by decide +kernel
theorem dL_isCue_231 : decode cL_isCue 231 = .ok (.iload 9, 2) := by decide +kernel
theorem dL_isCue_233 : decode cL_isCue 233 = .ok (.iload 13, 2) := by decide +kernel
theorem dL_isCue_235 : decode cL_isCue 235 = .ok (.bipush 8, 2) := by decide +kernel
theorem dL_isCue_237 : decode cL_isCue 237 = .ok (.idiv, 1) := by decide +kernel
theorem dL_isCue_238 : decode cL_isCue 238 = .ok (.isub, 1) := by decide +kernel
theorem dL_isCue_239 : decode cL_isCue 239 = .ok (.iload 7, 2) := by decide +kernel
theorem dL_isCue_241 : decode cL_isCue 241 = .ok (.if_icmp .gt 7, 3) := by decide +kernel
theorem dL_isCue_244 : decode cL_isCue 244 = .ok (.iconst 1, 1) := by decide +kernel
theorem dL_isCue_245 : decode cL_isCue 245 = .ok (.goto 4, 3) := by decide +kernel
theorem dL_isCue_248 : decode cL_isCue 248 = .ok (.iconst 0, 1) := by decide +kernel
theorem dL_isCue_249 : decode cL_isCue 249 = .ok (.istore 14, 2) := by decide +kernel
theorem dL_isCue_251 : decode cL_isCue 251 = .ok (.lload 10, 2) := by decide +kernel
theorem dL_isCue_253 : decode cL_isCue 253 = .ok (.iload 14, 2) := by decide +kernel
theorem dL_isCue_255 : decode cL_isCue 255 = .ok (.ifCond .eq 10, 3) := by decide +kernel
theorem dL_isCue_258 : decode cL_isCue 258 = .ok (.lconst 1, 1) := by decide +kernel
theorem dL_isCue_259 : decode cL_isCue 259 = .ok (.iload 13, 2) := by decide +kernel
theorem dL_isCue_261 : decode cL_isCue 261 = .ok (.lshl, 1) := by decide +kernel
theorem dL_isCue_262 : decode cL_isCue 262 = .ok (.goto 4, 3) := by decide +kernel
theorem dL_isCue_265 : decode cL_isCue 265 = .ok (.lconst 0, 1) := by decide +kernel
theorem dL_isCue_266 : decode cL_isCue 266 = .ok (.lor, 1) := by decide +kernel
theorem dL_isCue_267 : decode cL_isCue 267 = .ok (.lstore 10, 2) := by decide +kernel
theorem dL_isCue_269 : decode cL_isCue 269 = .ok (.iload 12, 2) := by decide +kernel
theorem dL_isCue_271 : decode cL_isCue 271 = .ok (.ifCond .ne 15, 3) := by decide +kernel
theorem dL_isCue_274 : decode cL_isCue 274 = .ok (.iload 14, 2) := by decide +kernel
theorem dL_isCue_276 : decode cL_isCue 276 = .ok (.ifCond .eq 14, 3) := by decide +kernel
theorem dL_isCue_279 : decode cL_isCue 279 = .ok (.aload_n 3, 1) := by decide +kernel
theorem dL_isCue_280 : decode cL_isCue 280 = .ok (.iload 13, 2) := by decide +kernel
theorem dL_isCue_282 : decode cL_isCue 282 = .ok (.iaload, 1) := by decide +kernel
theorem dL_isCue_283 : decode cL_isCue 283 = .ok (.ifCond .le 7, 3) := by decide +kernel
theorem dL_isCue_286 : decode cL_isCue 286 = .ok (.iconst 1, 1) := by decide +kernel
theorem dL_isCue_287 : decode cL_isCue 287 = .ok (.goto 4, 3) := by decide +kernel
theorem dL_isCue_290 : decode cL_isCue 290 = .ok (.iconst 0, 1) := by decide +kernel
theorem dL_isCue_291 : decode cL_isCue 291 = .ok (.istore 12, 2) := by decide +kernel
theorem dL_isCue_293 : decode cL_isCue 293 = .ok (.iinc 13 1, 3) := by decide +kernel
theorem dL_isCue_296 : decode cL_isCue 296 = .ok (.goto (-111), 3) := by decide +kernel
theorem dL_isCue_299 : decode cL_isCue 299 = .ok (.aload_n 0, 1) := by decide +kernel
theorem dL_isCue_300 : decode cL_isCue 300 = .ok (.iload 5, 2) := by decide +kernel
theorem dL_isCue_302 : decode cL_isCue 302 = .ok (.invokestatic 117, 3) := by decide +kernel
theorem dL_isCue_305 : decode cL_isCue 305 = .ok (.lload 10, 2) := by decide +kernel
theorem dL_isCue_307 : decode cL_isCue 307 = .ok (.lcmp, 1) := by decide +kernel
theorem dL_isCue_308 : decode cL_isCue 308 = .ok (.ifCond .ne 80, 3) := by decide +kernel
theorem dL_isCue_311 : decode cL_isCue 311 = .ok (.aload_n 0, 1) := by decide +kernel
theorem dL_isCue_312 : decode cL_isCue 312 = .ok (.iload 5, 2) := by decide +kernel
theorem dL_isCue_314 : decode cL_isCue 314 = .ok (.invokestatic 101, 3) := by decide +kernel
theorem dL_isCue_317 : decode cL_isCue 317 = .ok (.iconst 1, 1) := by decide +kernel
theorem dL_isCue_318 : decode cL_isCue 318 = .ok (.if_icmp .ne 7, 3) := by decide +kernel
theorem dL_isCue_321 : decode cL_isCue 321 = .ok (.iconst 1, 1) := by decide +kernel
theorem dL_isCue_322 : decode cL_isCue 322 = .ok (.goto 4, 3) := by decide +kernel
theorem dL_isCue_325 : decode cL_isCue 325 = .ok (.iconst 0, 1) := by decide +kernel
theorem dL_isCue_326 : decode cL_isCue 326 = .ok (.iload 12, 2) := by decide +kernel
theorem dL_isCue_328 : decode cL_isCue 328 = .ok (.if_icmp .ne 60, 3) := by decide +kernel
theorem dL_isCue_331 : decode cL_isCue 331 = .ok (.iload 8, 2) := by decide +kernel
theorem dL_isCue_333 : decode cL_isCue 333 = .ok (.aload_n 0, 1) := by decide +kernel
theorem dL_isCue_334 : decode cL_isCue 334 = .ok (.iload 5, 2) := by decide +kernel
theorem dL_isCue_336 : decode cL_isCue 336 = .ok (.iconst 0, 1) := by decide +kernel
theorem dL_isCue_337 : decode cL_isCue 337 = .ok (.invokestatic 110, 3) := by decide +kernel
theorem dL_isCue_340 : decode cL_isCue 340 = .ok (.invokestatic 124, 3) := by decide +kernel
theorem dL_isCue_343 : decode cL_isCue 343 = .ok (.if_icmp .ne 45, 3) := by decide +kernel
theorem dL_isCue_346 : decode cL_isCue 346 = .ok (.iload 9, 2) := by decide +kernel
theorem dL_isCue_348 : decode cL_isCue 348 = .ok (.aload_n 0, 1) := by decide +kernel
theorem dL_isCue_349 : decode cL_isCue 349 = .ok (.iload 5, 2) := by decide +kernel
theorem dL_isCue_351 : decode cL_isCue 351 = .ok (.iconst 1, 1) := by decide +kernel
theorem dL_isCue_352 : decode cL_isCue 352 = .ok (.invokestatic 110, 3) := by decide +kernel
theorem dL_isCue_355 : decode cL_isCue 355 = .ok (.invokestatic 124, 3) := by decide +kernel
theorem dL_isCue_358 : decode cL_isCue 358 = .ok (.if_icmp .ne 30, 3) := by decide +kernel
theorem dL_isCue_361 : decode cL_isCue 361 = .ok (.aload_n 0, 1) := by decide +kernel
theorem dL_isCue_362 : decode cL_isCue 362 = .ok (.iload 5, 2) := by decide +kernel
theorem dL_isCue_364 : decode cL_isCue 364 = .ok (.invokestatic 106, 3) := by decide +kernel
theorem dL_isCue_367 : decode cL_isCue 367 = .ok (.aload_n 0, 1) := by decide +kernel
theorem dL_isCue_368 : decode cL_isCue 368 = .ok (.iload 5, 2) := by decide +kernel
theorem dL_isCue_370 : decode cL_isCue 370 = .ok (.invokestatic 108, 3) := by decide +kernel
theorem dL_isCue_373 : decode cL_isCue 373 = .ok (.isub, 1) := by decide +kernel
theorem dL_isCue_374 : decode cL_isCue 374 = .ok (.aload_n 2, 1) := by decide +kernel
theorem dL_isCue_375 : decode cL_isCue 375 = .ok (.iload 6, 2) := by decide +kernel
theorem dL_isCue_377 : decode cL_isCue 377 = .ok (.iaload, 1) := by decide +kernel
theorem dL_isCue_378 : decode cL_isCue 378 = .ok (.bipush 32, 2) := by decide +kernel
theorem dL_isCue_380 : decode cL_isCue 380 = .ok (.irem, 1) := by decide +kernel
theorem dL_isCue_381 : decode cL_isCue 381 = .ok (.if_icmp .ne 7, 3) := by decide +kernel
theorem dL_isCue_384 : decode cL_isCue 384 = .ok (.iconst 1, 1) := by decide +kernel
theorem dL_isCue_385 : decode cL_isCue 385 = .ok (.goto 4, 3) := by decide +kernel
theorem dL_isCue_388 : decode cL_isCue 388 = .ok (.iconst 0, 1) := by decide +kernel
theorem dL_isCue_389 : decode cL_isCue 389 = .ok (.istore 13, 2) := by decide +kernel
theorem dL_isCue_391 : decode cL_isCue 391 = .ok (.iconst 0, 1) := by decide +kernel
theorem dL_isCue_392 : decode cL_isCue 392 = .ok (.istore 14, 2) := by decide +kernel
theorem dL_isCue_394 : decode cL_isCue 394 = .ok (.iload 14, 2) := by decide +kernel
theorem dL_isCue_396 : decode cL_isCue 396 = .ok (.iconst 4, 1) := by decide +kernel
theorem dL_isCue_397 : decode cL_isCue 397 = .ok (.if_icmp .ge 40, 3) := by decide +kernel
theorem dL_isCue_400 : decode cL_isCue 400 = .ok (.iload 13, 2) := by decide +kernel
theorem dL_isCue_402 : decode cL_isCue 402 = .ok (.ifCond .eq 26, 3) := by decide +kernel
theorem dL_isCue_405 : decode cL_isCue 405 = .ok (.aload_n 0, 1) := by decide +kernel
theorem dL_isCue_406 : decode cL_isCue 406 = .ok (.iload 5, 2) := by decide +kernel
theorem dL_isCue_408 : decode cL_isCue 408 = .ok (.iload 14, 2) := by decide +kernel
theorem dL_isCue_410 : decode cL_isCue 410 = .ok (.invokestatic 110, 3) := by decide +kernel
theorem dL_isCue_413 : decode cL_isCue 413 = .ok (.aload_n 0, 1) := by decide +kernel
theorem dL_isCue_414 : decode cL_isCue 414 = .ok (.iload 5, 2) := by decide +kernel
theorem dL_isCue_416 : decode cL_isCue 416 = .ok (.iload 14, 2) := by decide +kernel
theorem dL_isCue_418 : decode cL_isCue 418 = .ok (.invokestatic 113, 3) := by decide +kernel
theorem dL_isCue_421 : decode cL_isCue 421 = .ok (.if_icmp .ne 7, 3) := by decide +kernel
theorem dL_isCue_424 : decode cL_isCue 424 = .ok (.iconst 1, 1) := by decide +kernel
theorem dL_isCue_425 : decode cL_isCue 425 = .ok (.goto 4, 3) := by decide +kernel
theorem dL_isCue_428 : decode cL_isCue 428 = .ok (.iconst 0, 1) := by decide +kernel
theorem dL_isCue_429 : decode cL_isCue 429 = .ok (.istore 13, 2) := by decide +kernel
theorem dL_isCue_431 : decode cL_isCue 431 = .ok (.iinc 14 1, 3) := by decide +kernel
theorem dL_isCue_434 : decode cL_isCue 434 = .ok (.goto (-40), 3) := by decide +kernel
theorem dL_isCue_437 : decode cL_isCue 437 = .ok (.iload 13, 2) := by decide +kernel
theorem dL_isCue_439 : decode cL_isCue 439 = .ok (.ifCond .eq 53, 3) := by decide +kernel
theorem dL_isCue_442 : decode cL_isCue 442 = .ok (.aload_n 0, 1) := by decide +kernel
theorem dL_isCue_443 : decode cL_isCue 443 = .ok (.iload 5, 2) := by decide +kernel
theorem dL_isCue_445 : decode cL_isCue 445 = .ok (.iconst 4, 1) := by decide +kernel
theorem dL_isCue_446 : decode cL_isCue 446 = .ok (.invokestatic 110, 3) := by decide +kernel
theorem dL_isCue_449 : decode cL_isCue 449 = .ok (.ldc 18, 2) := by decide +kernel
theorem dL_isCue_451 : decode cL_isCue 451 = .ok (.if_icmp .ne 41, 3) := by decide +kernel
theorem dL_isCue_454 : decode cL_isCue 454 = .ok (.aload_n 0, 1) := by decide +kernel
theorem dL_isCue_455 : decode cL_isCue 455 = .ok (.iload 5, 2) := by decide +kernel
theorem dL_isCue_457 : decode cL_isCue 457 = .ok (.iconst (-1), 1) := by decide +kernel
theorem dL_isCue_458 : decode cL_isCue 458 = .ok (.invokestatic 113, 3) := by decide +kernel
theorem dL_isCue_461 : decode cL_isCue 461 = .ok (.ldc 18, 2) := by decide +kernel
theorem dL_isCue_463 : decode cL_isCue 463 = .ok (.if_icmp .ne 29, 3) := by decide +kernel
theorem dL_isCue_466 : decode cL_isCue 466 = .ok (.aload_n 0, 1) := by decide +kernel
theorem dL_isCue_467 : decode cL_isCue 467 = .ok (.iload 5, 2) := by decide +kernel
theorem dL_isCue_469 : decode cL_isCue 469 = .ok (.iconst 3, 1) := by decide +kernel
theorem dL_isCue_470 : decode cL_isCue 470 = .ok (.invokestatic 115, 3) := by decide +kernel
theorem dL_isCue_473 : decode cL_isCue 473 = .ok (.ldc 18, 2) := by decide +kernel
theorem dL_isCue_475 : decode cL_isCue 475 = .ok (.if_icmp .ne 17, 3) := by decide +kernel
theorem dL_isCue_478 : decode cL_isCue 478 = .ok (.aload_n 0, 1) := by decide +kernel
theorem dL_isCue_479 : decode cL_isCue 479 = .ok (.iload 5, 2) := by decide +kernel
theorem dL_isCue_481 : decode cL_isCue 481 = .ok (.iconst 2, 1) := by decide +kernel
theorem dL_isCue_482 : decode cL_isCue 482 = .ok (.invokestatic 115, 3) := by decide +kernel
theorem dL_isCue_485 : decode cL_isCue 485 = .ok (.ifCond .le 7, 3) := by decide +kernel
theorem dL_isCue_488 : decode cL_isCue 488 = .ok (.iconst 1, 1) := by decide +kernel
theorem dL_isCue_489 : decode cL_isCue 489 = .ok (.goto 4, 3) := by decide +kernel
theorem dL_isCue_492 : decode cL_isCue 492 = .ok (.iconst 0, 1) := by decide +kernel
theorem dL_isCue_493 : decode cL_isCue 493 = .ok (.ireturn, 1) := by decide +kernel
set_option maxRecDepth 20000 in
theorem ggL_isClosed_L_becomes : GoodIn wsL_isClosed wsL_becomes := goodIn_ca (goodIn_r _ [4, 5, 6, 7, 8, 9, 10, 11, 12, 13, 14, 15, 16, 17, 18, 19, 20, 21, 22, 23, 24, 25, 26, 27, 28, 29, 30, 31, 32, 33, 34, 35, 36, 37, 38, 39, 40, 41, 42, 43, 44, 45, 46, 47, 48, 49, 50, 51, 52, 53, 54, 55, 56, 57, 58, 59, 60, 61, 62, 63, 64, 65, 66, 67, 68, 69, 70, 71, 72, 73, 74, 75, 76, 77, 78, 79, 80, 81, 82, 83, 84, 85, 86, 87, 88, 89, 90, 91, 92, 93, 94, 95, 96, 97, 98, 99, 100, 101, 102, 103, 104, 105, 106, 107, 108, 109, 110, 111, 112, 113, 114, 115, 116, 117, 118, 119, 120, 121, 122, 123, 124, 125, 126, 127, 128, 129, 130, 131, 132, 133, 134, 135, 136, 137, 138, 139, 140, 141, 142, 143, 144, 145, 146, 147, 148, 173, 174, 175, 176, 177, 178, 179, 180, 181, 182, 183, 184, 185, 186, 187, 188, 189, 190, 191, 192, 193, 194, 195, 196, 197, 198, 199, 200, 201, 202, 203, 204, 205, 206, 207, 208, 209, 210, 211, 212, 213, 214, 215, 216, 217] (by decide +kernel) (by decide +kernel)) (goodIn_sub (fun _ h => List.mem_cons_of_mem _ (List.mem_append_right _ h)) (by decide +kernel))
set_option maxRecDepth 20000 in
theorem gL_isClosed_L_becomes : GoodIn wsL_isClosed (va_wsS RL 101 yL_becomes wsL_becomes) := goodIn_app (goodIn_of _ (by decide +kernel)) ggL_isClosed_L_becomes
set_option maxRecDepth 20000 in
theorem ggL_isClosed_L_bursts : GoodIn wsL_isClosed wsL_bursts := goodIn_ca (goodIn_r _ [151, 5, 6, 152, 153, 154, 10, 155, 116, 13, 14, 15, 16, 17, 18, 19, 20, 21, 22, 23, 24, 25, 26, 27, 28, 29, 30, 31, 32, 33, 34, 35, 36, 37, 38, 39, 40, 12, 41, 42, 43, 44, 45, 46, 47, 48, 49, 50, 51, 52, 53, 54, 55, 56, 57, 58, 59, 60, 61, 62, 63, 64, 65, 66, 67, 68, 69, 70, 71, 72, 73, 74, 75, 76, 77, 78, 79, 80, 81, 82, 83, 84, 85, 86, 87, 88, 89, 90, 91, 92, 93, 94, 95, 96, 97, 98, 99, 100, 101, 102, 103, 104, 105, 106, 107, 108, 109, 110, 111, 112, 113, 114, 115, 117, 118, 119, 120, 121, 122, 123, 124, 125, 126, 127, 128, 129, 130, 131, 132, 133, 134, 135, 136, 137, 138, 139, 140, 141, 142, 143, 144, 145, 146, 147, 148, 173, 174, 175, 176, 177, 178, 179, 180, 181, 182, 183, 184, 185, 186, 187, 188, 189, 190, 191, 192, 193, 194, 195, 196, 197, 198, 199, 200, 201, 202, 203, 204, 205, 206, 207, 208, 209, 210, 211, 212, 213, 214, 215, 216, 217] (by decide +kernel) (by decide +kernel)) (goodIn_sub (fun _ h => List.mem_cons_of_mem _ (List.mem_append_right _ h)) (by decide +kernel))
set_option maxRecDepth 20000 in
theorem gL_isClosed_L_bursts : GoodIn wsL_isClosed (va_wsS RL 106 yL_bursts wsL_bursts) := goodIn_app (goodIn_of _ (by decide +kernel)) ggL_isClosed_L_bursts
set_option maxRecDepth 20000 in
theorem ggL_isClosed_L_fires : GoodIn wsL_isClosed wsL_fires := goodIn_ca (goodIn_r _ [158, 5, 6, 159, 160, 161, 10, 162, 118, 13, 14, 15, 16, 17, 18, 19, 20, 21, 22, 23, 24, 25, 26, 27, 28, 29, 30, 31, 32, 33, 34, 35, 36, 37, 38, 39, 40, 12, 41, 42, 43, 44, 45, 46, 47, 48, 49, 50, 51, 52, 53, 54, 55, 56, 57, 58, 59, 60, 61, 62, 63, 64, 65, 66, 67, 68, 69, 70, 71, 72, 73, 74, 75, 76, 77, 78, 79, 80, 81, 82, 83, 84, 85, 86, 87, 88, 89, 90, 91, 92, 93, 94, 95, 96, 97, 98, 99, 100, 101, 102, 103, 104, 105, 106, 107, 108, 109, 110, 111, 112, 113, 114, 115, 116, 117, 119, 120, 121, 122, 123, 124, 125, 126, 127, 128, 129, 130, 131, 132, 133, 134, 135, 136, 137, 138, 139, 140, 141, 142, 143, 144, 145, 146, 147, 148, 173, 174, 175, 176, 177, 178, 179, 180, 181, 182, 183, 184, 185, 186, 187, 188, 189, 190, 191, 192, 193, 194, 195, 196, 197, 198, 199, 200, 201, 202, 203, 204, 205, 206, 207, 208, 209, 210, 211, 212, 213, 214, 215, 216, 217] (by decide +kernel) (by decide +kernel)) (goodIn_sub (fun _ h => List.mem_cons_of_mem _ (List.mem_append_right _ h)) (by decide +kernel))
set_option maxRecDepth 20000 in
theorem gL_isClosed_L_fires : GoodIn wsL_isClosed (va_wsS RL 108 yL_fires wsL_fires) := goodIn_app (goodIn_of _ (by decide +kernel)) ggL_isClosed_L_fires
set_option maxRecDepth 20000 in
theorem ggL_isClosed_X9_closed : GoodIn wsL_isClosed wsX9_closed := goodIn_r _ [166, 32, 167, 27, 28, 29, 10, 30, 31, 23, 33, 34, 35, 36, 37, 38, 39, 40, 12, 41, 42, 43, 44, 45, 46, 47, 48, 49, 50, 51, 52, 53, 54, 55, 56, 57, 58, 59, 60, 61, 62, 63, 64, 65, 66, 67, 68, 69, 70, 71, 72, 73, 74, 75, 76, 77, 78, 79, 80, 81, 82, 83, 84, 85, 86, 87, 88, 89, 90, 91, 92, 93, 94, 95, 96, 97, 98, 99, 100, 101, 102, 103, 104, 105, 106, 107, 108, 109, 110, 111, 112, 113, 114, 115, 116, 117, 118, 119, 120, 121, 122, 123, 124, 125, 126, 127, 128, 129, 130, 131, 132, 133, 134, 135, 136, 137, 138, 139, 140, 141, 142, 143, 144, 145, 146, 147, 148, 182, 183, 184, 185, 186, 187, 188, 189, 190, 191, 192, 193, 194, 195, 196, 210, 211, 212, 213, 173, 174, 175, 176, 177, 178, 179, 180, 181, 197, 198, 199, 200, 201, 202, 203, 204, 205, 206, 207, 208, 209, 214, 215, 216, 217] (by decide +kernel) (by decide +kernel)
set_option maxRecDepth 20000 in
theorem gL_isClosed_X9_closed : GoodIn wsL_isClosed (wsV RL 127 RX9 yX9_closed wsX9_closed) := goodIn_app (goodIn_of _ (by decide +kernel)) ggL_isClosed_X9_closed
set_option maxRecDepth 20000 in
theorem ggL_isClosed_X9_cues : GoodIn wsL_isClosed wsX9_cues := goodIn_r _ [171, 172, 182, 183, 184, 185, 186, 187, 188, 189, 190, 191, 192, 193, 194, 195, 196] (by decide +kernel) (by decide +kernel)
set_option maxRecDepth 20000 in
theorem gL_isClosed_X9_cues : GoodIn wsL_isClosed (wsV RL 131 RX9 yX9_cues wsX9_cues) := goodIn_app (goodIn_of _ (by decide +kernel)) ggL_isClosed_X9_cues
theorem dL_isClosed_0 : decode cL_isClosed 0 = .ok (.iconst 0, 1) := by decide +kernel
theorem dL_isClosed_1 : decode cL_isClosed 1 = .ok (.istore_n 3, 1) := by decide +kernel
theorem dL_isClosed_2 : decode cL_isClosed 2 = .ok (.iconst 1, 1) := by decide +kernel
theorem dL_isClosed_3 : decode cL_isClosed 3 = .ok (.istore 4, 2) := by decide +kernel
theorem dL_isClosed_5 : decode cL_isClosed 5 = .ok (.iconst 0, 1) := by decide +kernel
theorem dL_isClosed_6 : decode cL_isClosed 6 = .ok (.istore 5, 2) := by decide +kernel
theorem dL_isClosed_8 : decode cL_isClosed 8 = .ok (.iload 5, 2) := by decide +kernel
theorem dL_isClosed_10 : decode cL_isClosed 10 = .ok (.bipush 100, 2) := by decide +kernel
theorem dL_isClosed_12 : decode cL_isClosed 12 = .ok (.if_icmp .gt 169, 3) := by decide +kernel
theorem dL_isClosed_15 : decode cL_isClosed 15 = .ok (.iconst 0, 1) := by decide +kernel
theorem dL_isClosed_16 : decode cL_isClosed 16 = .ok (.istore 6, 2) := by decide +kernel
theorem dL_isClosed_18 : decode cL_isClosed 18 = .ok (.iconst 0, 1) := by decide +kernel
theorem dL_isClosed_19 : decode cL_isClosed 19 = .ok (.istore 7, 2) := by decide +kernel
theorem dL_isClosed_21 : decode cL_isClosed 21 = .ok (.iconst 0, 1) := by decide +kernel
theorem dL_isClosed_22 : decode cL_isClosed 22 = .ok (.istore 8, 2) := by decide +kernel
theorem dL_isClosed_24 : decode cL_isClosed 24 = .ok (.iload 8, 2) := by decide +kernel
theorem dL_isClosed_26 : decode cL_isClosed 26 = .ok (.aload_n 2, 1) := by decide +kernel
theorem dL_isClosed_27 : decode cL_isClosed 27 = .ok (.iconst 0, 1) := by decide +kernel
theorem dL_isClosed_28 : decode cL_isClosed 28 = .ok (.iaload, 1) := by decide +kernel
theorem dL_isClosed_29 : decode cL_isClosed 29 = .ok (.if_icmp .ge 126, 3) := by decide +kernel
theorem dL_isClosed_32 : decode cL_isClosed 32 = .ok (.aload_n 1, 1) := by decide +kernel
theorem dL_isClosed_33 : decode cL_isClosed 33 = .ok (.iload 8, 2) := by decide +kernel
theorem dL_isClosed_35 : decode cL_isClosed 35 = .ok (.iaload, 1) := by decide +kernel
theorem dL_isClosed_36 : decode cL_isClosed 36 = .ok (.sipush 128, 3) := by decide +kernel
theorem dL_isClosed_39 : decode cL_isClosed 39 = .ok (.irem, 1) := by decide +kernel
theorem dL_isClosed_40 : decode cL_isClosed 40 = .ok (.iload 5, 2) := by decide +kernel
theorem dL_isClosed_42 : decode cL_isClosed 42 = .ok (.if_icmp .ne 107, 3) := by decide +kernel
theorem dL_isClosed_45 : decode cL_isClosed 45 = .ok (.aload_n 1, 1) := by decide +kernel
theorem dL_isClosed_46 : decode cL_isClosed 46 = .ok (.iload 8, 2) := by decide +kernel
theorem dL_isClosed_48 : decode cL_isClosed 48 = .ok (.iaload, 1) := by decide +kernel
theorem dL_isClosed_49 : decode cL_isClosed 49 = .ok (.sipush 4096, 3) := by decide +kernel
theorem dL_isClosed_52 : decode cL_isClosed 52 = .ok (.if_icmp .ge 97, 3) := by decide +kernel
theorem dL_isClosed_55 : decode cL_isClosed 55 = .ok (.iinc 6 1, 3) := by decide +kernel
theorem dL_isClosed_58 : decode cL_isClosed 58 = .ok (.iload 7, 2) := by decide +kernel
theorem dL_isClosed_60 : decode cL_isClosed 60 = .ok (.aload_n 0, 1) := by decide +kernel
theorem dL_isClosed_61 : decode cL_isClosed 61 = .ok (.iload 8, 2) := by decide +kernel
theorem dL_isClosed_63 : decode cL_isClosed 63 = .ok (.invokestatic 101, 3) := by decide +kernel
theorem dL_isClosed_66 : decode cL_isClosed 66 = .ok (.iconst 1, 1) := by decide +kernel
theorem dL_isClosed_67 : decode cL_isClosed 67 = .ok (.if_icmp .ne 7, 3) := by decide +kernel
theorem dL_isClosed_70 : decode cL_isClosed 70 = .ok (.iconst 1, 1) := by decide +kernel
theorem dL_isClosed_71 : decode cL_isClosed 71 = .ok (.goto 4, 3) := by decide +kernel
theorem dL_isClosed_74 : decode cL_isClosed 74 = .ok (.iconst 0, 1) := by decide +kernel
theorem dL_isClosed_75 : decode cL_isClosed 75 = .ok (.iadd, 1) := by decide +kernel
theorem dL_isClosed_76 : decode cL_isClosed 76 = .ok (.istore 7, 2) := by decide +kernel
theorem dL_isClosed_78 : decode cL_isClosed 78 = .ok (.iload 4, 2) := by decide +kernel
theorem dL_isClosed_80 : decode cL_isClosed 80 = .ok (.ifCond .eq 66, 3) := by decide +kernel
theorem dL_isClosed_83 : decode cL_isClosed 83 = .ok (.aload_n 0, 1) := by decide +kernel
theorem dL_isClosed_84 : decode cL_isClosed 84 = .ok (.iload 8, 2) := by decide +kernel
theorem dL_isClosed_86 : decode cL_isClosed 86 = .ok (.invokestatic 106, 3) := by decide +kernel
theorem dL_isClosed_89 : decode cL_isClosed 89 = .ok (.iload 5, 2) := by decide +kernel
theorem dL_isClosed_91 : decode cL_isClosed 91 = .ok (.iload_n 3, 1) := by decide +kernel
theorem dL_isClosed_92 : decode cL_isClosed 92 = .ok (.isub, 1) := by decide +kernel
theorem dL_isClosed_93 : decode cL_isClosed 93 = .ok (.aload_n 2, 1) := by decide +kernel
theorem dL_isClosed_94 : decode cL_isClosed 94 = .ok (.iconst 2, 1) := by decide +kernel
theorem dL_isClosed_95 : decode cL_isClosed 95 = .ok (.iaload, 1) := by decide +kernel
theorem dL_isClosed_96 : decode cL_isClosed 96 = .ok (.imul, 1) := by decide +kernel
theorem dL_isClosed_97 : decode cL_isClosed 97 = .ok (.if_icmp .ne 49, 3) := by decide +kernel
theorem dL_isClosed_100 : decode cL_isClosed 100 = .ok (.aload_n 0, 1) := by decide +kernel
theorem dL_isClosed_101 : decode cL_isClosed 101 = .ok (.iload 8, 2) := by decide +kernel
theorem dL_isClosed_103 : decode cL_isClosed 103 = .ok (.invokestatic 101, 3) := by decide +kernel
theorem dL_isClosed_106 : decode cL_isClosed 106 = .ok (.iconst 2, 1) := by decide +kernel
theorem dL_isClosed_107 : decode cL_isClosed 107 = .ok (.if_icmp .ne 7, 3) := by decide +kernel
theorem dL_isClosed_110 : decode cL_isClosed 110 = .ok (.iconst 1, 1) := by decide +kernel
theorem dL_isClosed_111 : decode cL_isClosed 111 = .ok (.goto 4, 3) := by decide +kernel
theorem dL_isClosed_114 : decode cL_isClosed 114 = .ok (.iconst 0, 1) := by decide +kernel
theorem dL_isClosed_115 : decode cL_isClosed 115 = .ok (.aload_n 0, 1) := by decide +kernel
theorem dL_isClosed_116 : decode cL_isClosed 116 = .ok (.iload 8, 2) := by decide +kernel
theorem dL_isClosed_118 : decode cL_isClosed 118 = .ok (.invokestatic 108, 3) := by decide +kernel
theorem dL_isClosed_121 : decode cL_isClosed 121 = .ok (.ifCond .ge 17, 3) := by decide +kernel
theorem dL_isClosed_124 : decode cL_isClosed 124 = .ok (.aload_n 0, 1) := by decide +kernel
theorem dL_isClosed_125 : decode cL_isClosed 125 = .ok (.iload 8, 2) := by decide +kernel
theorem dL_isClosed_127 : decode cL_isClosed 127 = .ok (.invokestatic 101, 3) := by decide +kernel
theorem dL_isClosed_130 : decode cL_isClosed 130 = .ok (.iconst 1, 1) := by decide +kernel
theorem dL_isClosed_131 : decode cL_isClosed 131 = .ok (.if_icmp .eq 7, 3) := by decide +kernel
theorem dL_isClosed_134 : decode cL_isClosed 134 = .ok (.iconst 1, 1) := by decide +kernel
theorem dL_isClosed_135 : decode cL_isClosed 135 = .ok (.goto 4, 3) := by decide +kernel
theorem dL_isClosed_138 : decode cL_isClosed 138 = .ok (.iconst 0, 1) := by decide +kernel
theorem dL_isClosed_139 : decode cL_isClosed 139 = .ok (.if_icmp .ne 7, 3) := by decide +kernel
theorem dL_isClosed_142 : decode cL_isClosed 142 = .ok (.iconst 1, 1) := by decide +kernel
theorem dL_isClosed_143 : decode cL_isClosed 143 = .ok (.goto 4, 3) := by decide +kernel
theorem dL_isClosed_146 : decode cL_isClosed 146 = .ok (.iconst 0, 1) := by decide +kernel
theorem dL_isClosed_147 : decode cL_isClosed 147 = .ok (.istore 4, 2) := by decide +kernel
theorem dL_isClosed_149 : decode cL_isClosed 149 = .ok (.iinc 8 1, 3) := by decide +kernel
theorem dL_isClosed_152 : decode cL_isClosed 152 = .ok (.goto (-128), 3) := by decide +kernel
theorem dL_isClosed_155 : decode cL_isClosed 155 = .ok (.iload_n 3, 1) := by decide +kernel
theorem dL_isClosed_156 : decode cL_isClosed 156 = .ok (.iload 6, 2) := by decide +kernel
theorem dL_isClosed_158 : decode cL_isClosed 158 = .ok (.ifCond .le 14, 3) := by decide +kernel
theorem dL_isClosed_161 : decode cL_isClosed 161 = .ok (.iload 6, 2) := by decide +kernel
theorem dL_isClosed_163 : decode cL_isClosed 163 = .ok (.iload 7, 2) := by decide +kernel
theorem dL_isClosed_165 : decode cL_isClosed 165 = .ok (.if_icmp .ne 7, 3) := by decide +kernel
theorem dL_isClosed_168 : decode cL_isClosed 168 = .ok (.iconst 1, 1) := by decide +kernel
theorem dL_isClosed_169 : decode cL_isClosed 169 = .ok (.goto 4, 3) := by decide +kernel
theorem dL_isClosed_172 : decode cL_isClosed 172 = .ok (.iconst 0, 1) := by decide +kernel
theorem dL_isClosed_173 : decode cL_isClosed 173 = .ok (.iadd, 1) := by decide +kernel
theorem dL_isClosed_174 : decode cL_isClosed 174 = .ok (.istore_n 3, 1) := by decide +kernel
theorem dL_isClosed_175 : decode cL_isClosed 175 = .ok (.iinc 5 1, 3) := by decide +kernel
theorem dL_isClosed_178 : decode cL_isClosed 178 = .ok (.goto (-170), 3) := by decide +kernel
theorem dL_isClosed_181 : decode cL_isClosed 181 = .ok (.iload 4, 2) := by decide +kernel
theorem dL_isClosed_183 : decode cL_isClosed 183 = .ok (.ifCond .eq 25, 3) := by decide +kernel
theorem dL_isClosed_186 : decode cL_isClosed 186 = .ok (.aload_n 0, 1) := by decide +kernel
theorem dL_isClosed_187 : decode cL_isClosed 187 = .ok (.invokevirtual 127, 3) := by decide +kernel
theorem dL_isClosed_190 : decode cL_isClosed 190 = .ok (.iload_n 3, 1) := by decide +kernel
theorem dL_isClosed_191 : decode cL_isClosed 191 = .ok (.if_icmp .ne 17, 3) := by decide +kernel
theorem dL_isClosed_194 : decode cL_isClosed 194 = .ok (.aload_n 0, 1) := by decide +kernel
theorem dL_isClosed_195 : decode cL_isClosed 195 = .ok (.invokevirtual 131, 3) := by decide +kernel
theorem dL_isClosed_198 : decode cL_isClosed 198 = .ok (.aload_n 2, 1) := by decide +kernel
theorem dL_isClosed_199 : decode cL_isClosed 199 = .ok (.iconst 1, 1) := by decide +kernel
theorem dL_isClosed_200 : decode cL_isClosed 200 = .ok (.iaload, 1) := by decide +kernel
theorem dL_isClosed_201 : decode cL_isClosed 201 = .ok (.if_icmp .ne 7, 3) := by decide +kernel
theorem dL_isClosed_204 : decode cL_isClosed 204 = .ok (.iconst 1, 1) := by decide +kernel
theorem dL_isClosed_205 : decode cL_isClosed 205 = .ok (.goto 4, 3) := by decide +kernel
theorem dL_isClosed_208 : decode cL_isClosed 208 = .ok (.iconst 0, 1) := by decide +kernel
theorem dL_isClosed_209 : decode cL_isClosed 209 = .ok (.ireturn, 1) := by decide +kernel
set_option maxRecDepth 20000 in
theorem ggL_areGiven_L_channelOf : GoodIn wsL_areGiven wsL_channelOf := goodIn_ca (goodIn_r _ [6, 7, 1, 8, 9, 10, 11, 12, 13, 14, 15, 16, 17, 18, 19, 20, 21, 22, 23, 24, 25, 26, 27, 28, 29, 30, 31, 32, 33, 34, 35, 36, 37, 38, 39, 40, 41, 42, 43, 44, 45, 46, 47, 48, 49, 50, 51, 52, 53, 54, 55, 56, 57, 58, 59, 60, 61, 62, 63, 64, 65, 66, 67, 68, 69, 70, 71, 72, 73, 74, 75, 76, 77, 78, 79, 80, 81, 82, 83, 84, 85, 86, 87, 88, 89, 90, 91, 92, 93, 94, 95, 96, 97, 98, 99, 100, 101, 102, 103, 104, 105, 106, 107, 108, 109, 110, 111, 112, 113, 114, 115, 116, 117, 118, 119, 120, 121, 122, 123, 124, 125, 126, 127, 128, 129, 130, 131, 132, 133, 134, 135, 136, 137, 138, 139, 140, 141, 142, 143, 144, 145, 146, 147, 148, 149, 194, 195, 196, 197, 198, 199, 200, 201, 202, 203, 204, 205, 206, 207, 208, 209, 210, 211, 212, 213, 214, 215, 216, 217, 218, 219, 220, 221, 222, 223, 224, 225, 226, 227, 228, 229, 230, 231, 232, 233, 234, 235, 236, 237, 238] (by decide +kernel) (by decide +kernel)) (goodIn_sub (fun _ h => List.mem_cons_of_mem _ (List.mem_append_left _ (List.mem_append_right _ h))) (by decide +kernel))
set_option maxRecDepth 20000 in
theorem gL_areGiven_L_channelOf : GoodIn wsL_areGiven (va_wsS RL 120 yL_channelOf wsL_channelOf) := goodIn_app (goodIn_of _ (by decide +kernel)) ggL_areGiven_L_channelOf
set_option maxRecDepth 20000 in
theorem ggL_areGiven_L_becomes : GoodIn wsL_areGiven wsL_becomes := goodIn_ca (goodIn_r _ [152, 7, 1, 153, 154, 155, 11, 156, 42, 14, 15, 16, 17, 18, 19, 20, 21, 22, 23, 24, 25, 26, 27, 28, 29, 30, 31, 32, 33, 34, 35, 36, 37, 38, 39, 40, 41, 43, 44, 45, 46, 47, 48, 49, 50, 51, 52, 53, 54, 55, 56, 57, 58, 59, 60, 61, 62, 63, 64, 65, 66, 67, 68, 69, 70, 71, 72, 73, 74, 75, 76, 77, 78, 79, 80, 81, 82, 83, 84, 85, 86, 87, 88, 89, 90, 91, 92, 93, 94, 95, 96, 97, 98, 99, 100, 101, 102, 103, 104, 105, 106, 107, 108, 109, 110, 111, 112, 113, 114, 115, 116, 117, 118, 119, 120, 13, 121, 122, 123, 124, 125, 126, 127, 128, 129, 130, 131, 132, 133, 134, 135, 136, 137, 138, 139, 140, 141, 142, 143, 144, 145, 146, 147, 148, 149, 194, 195, 196, 197, 198, 199, 200, 201, 202, 203, 204, 205, 206, 207, 208, 209, 210, 211, 212, 213, 214, 215, 216, 217, 218, 219, 220, 221, 222, 223, 224, 225, 226, 227, 228, 229, 230, 231, 232, 233, 234, 235, 236, 237, 238] (by decide +kernel) (by decide +kernel)) (goodIn_sub (fun _ h => List.mem_cons_of_mem _ (List.mem_append_left _ (List.mem_append_right _ h))) (by decide +kernel))
set_option maxRecDepth 20000 in
theorem gL_areGiven_L_becomes : GoodIn wsL_areGiven (va_wsS RL 101 yL_becomes wsL_becomes) := goodIn_app (goodIn_of _ (by decide +kernel)) ggL_areGiven_L_becomes
set_option maxRecDepth 20000 in
theorem ggL_areGiven_L_cueOn : GoodIn wsL_areGiven wsL_cueOn := goodIn_ca (goodIn_r _ [159, 160, 2, 161, 162, 163, 11, 164, 165, 166, 130, 167, 25, 26, 27, 28, 29, 30, 31, 32, 33, 24, 34, 35, 36, 37, 38, 39, 40, 41, 42, 43, 44, 45, 46, 47, 48, 49, 50, 51, 52, 53, 54, 55, 56, 57, 58, 59, 60, 61, 62, 63, 64, 65, 66, 67, 68, 69, 70, 71, 72, 73, 74, 75, 76, 77, 78, 79, 80, 81, 82, 83, 84, 85, 86, 87, 88, 89, 90, 91, 92, 93, 94, 95, 96, 97, 98, 99, 100, 101, 102, 103, 104, 105, 106, 107, 108, 109, 110, 111, 112, 113, 114, 115, 116, 117, 118, 119, 120, 13, 121, 122, 123, 124, 125, 126, 127, 128, 129, 131, 132, 133, 134, 135, 136, 137, 138, 139, 140, 141, 142, 143, 144, 145, 146, 147, 148, 149, 203, 204, 205, 206, 207, 208, 209, 210, 211, 212, 213, 214, 215, 216, 217, 235, 236, 237, 238, 194, 195, 196, 197, 198, 199, 200, 201, 202, 218, 219, 220, 221, 222, 223, 224, 225, 226, 227, 228, 229, 230, 231, 232, 233, 234] (by decide +kernel) (by decide +kernel)) (goodIn_sub (fun _ h => List.mem_cons_of_mem _ (List.mem_append_right _ h)) (by decide +kernel))
set_option maxRecDepth 20000 in
theorem gL_areGiven_L_cueOn : GoodIn wsL_areGiven (va_wsS RL 134 yL_cueOn wsL_cueOn) := goodIn_app (goodIn_of _ (by decide +kernel)) ggL_areGiven_L_cueOn
set_option maxRecDepth 20000 in
theorem ggL_areGiven_L_firing : GoodIn wsL_areGiven wsL_firing := goodIn_ca (goodIn_r _ [170, 7, 1, 171, 172, 173, 11, 174, 22, 23, 114, 125, 131, 28, 29, 30, 31, 32, 33, 24, 34, 35, 36, 37, 38, 39, 40, 41, 42, 43, 44, 45, 46, 47, 48, 49, 50, 51, 52, 53, 54, 55, 56, 57, 58, 59, 60, 61, 62, 63, 64, 65, 66, 67, 68, 69, 70, 71, 72, 73, 74, 75, 76, 77, 78, 79, 80, 81, 82, 83, 84, 85, 86, 87, 88, 89, 90, 91, 92, 93, 94, 95, 96, 97, 98, 99, 100, 101, 102, 103, 104, 105, 106, 107, 108, 109, 110, 111, 112, 113, 115, 116, 117, 118, 119, 120, 13, 121, 122, 123, 124, 126, 127, 128, 129, 130, 132, 133, 134, 135, 136, 137, 138, 139, 140, 141, 142, 143, 144, 145, 146, 147, 148, 149, 203, 204, 205, 206, 207, 208, 209, 210, 211, 212, 213, 214, 215, 216, 217, 194, 195, 196, 197, 198, 199, 200, 201, 202, 218, 219, 220, 221, 222, 223, 224, 225, 226, 227, 228, 229, 230, 231, 232, 233, 234, 235, 236, 237, 238] (by decide +kernel) (by decide +kernel)) (goodIn_sub (fun _ h => List.mem_cons_of_mem _ (List.mem_append_left _ (List.mem_append_right _ h))) (by decide +kernel))
set_option maxRecDepth 20000 in
theorem gL_areGiven_L_firing : GoodIn wsL_areGiven (va_wsS RL 136 yL_firing wsL_firing) := goodIn_app (goodIn_of _ (by decide +kernel)) ggL_areGiven_L_firing
set_option maxRecDepth 20000 in
theorem ggL_areGiven_L_fires : GoodIn wsL_areGiven wsL_fires := goodIn_ca (goodIn_r _ [177, 7, 1, 178, 179, 180, 11, 181, 120, 14, 15, 16, 17, 18, 19, 20, 21, 22, 23, 24, 25, 26, 27, 28, 29, 30, 31, 32, 33, 34, 35, 36, 37, 38, 39, 40, 41, 42, 43, 44, 45, 46, 47, 48, 49, 50, 51, 52, 53, 54, 55, 56, 57, 58, 59, 60, 61, 62, 63, 64, 65, 66, 67, 68, 69, 70, 71, 72, 73, 74, 75, 76, 77, 78, 79, 80, 81, 82, 83, 84, 85, 86, 87, 88, 89, 90, 91, 92, 93, 94, 95, 96, 97, 98, 99, 100, 101, 102, 103, 104, 105, 106, 107, 108, 109, 110, 111, 112, 113, 114, 115, 116, 117, 118, 119, 13, 121, 122, 123, 124, 125, 126, 127, 128, 129, 130, 131, 132, 133, 134, 135, 136, 137, 138, 139, 140, 141, 142, 143, 144, 145, 146, 147, 148, 149, 194, 195, 196, 197, 198, 199, 200, 201, 202, 203, 204, 205, 206, 207, 208, 209, 210, 211, 212, 213, 214, 215, 216, 217, 218, 219, 220, 221, 222, 223, 224, 225, 226, 227, 228, 229, 230, 231, 232, 233, 234, 235, 236, 237, 238] (by decide +kernel) (by decide +kernel)) (goodIn_sub (fun _ h => List.mem_cons_of_mem _ (List.mem_append_left _ (List.mem_append_right _ h))) (by decide +kernel))
set_option maxRecDepth 20000 in
theorem gL_areGiven_L_fires : GoodIn wsL_areGiven (va_wsS RL 108 yL_fires wsL_fires) := goodIn_app (goodIn_of _ (by decide +kernel)) ggL_areGiven_L_fires
set_option maxRecDepth 20000 in
theorem ggL_areGiven_X9_fired : GoodIn wsL_areGiven wsX9_fired := goodIn_r _ [185, 114, 28, 29, 30, 11, 31, 32, 33, 24, 34, 35, 36, 37, 38, 39, 40, 41, 42, 43, 44, 45, 46, 47, 48, 49, 50, 51, 52, 53, 54, 55, 56, 57, 58, 59, 60, 61, 62, 63, 64, 65, 66, 67, 68, 69, 70, 71, 72, 73, 74, 75, 76, 77, 78, 79, 80, 81, 82, 83, 84, 85, 86, 87, 88, 89, 90, 91, 92, 93, 94, 95, 96, 97, 98, 99, 100, 101, 102, 103, 104, 105, 106, 107, 108, 109, 110, 111, 112, 113, 115, 116, 117, 118, 119, 120, 13, 121, 122, 123, 124, 125, 126, 127, 128, 129, 130, 131, 132, 133, 134, 135, 136, 137, 138, 139, 140, 141, 142, 143, 144, 145, 146, 147, 148, 149, 203, 204, 205, 206, 207, 208, 209, 210, 211, 212, 213, 214, 215, 216, 217, 194, 195, 196, 197, 198, 199, 200, 201, 202, 218, 219, 220, 221, 222, 223, 224, 225, 226, 227, 228, 229, 230, 231, 232, 233, 234, 235, 236, 237, 238] (by decide +kernel) (by decide +kernel)
set_option maxRecDepth 20000 in
theorem gL_areGiven_X9_fired : GoodIn wsL_areGiven (wsV RL 138 RX9 yX9_fired wsX9_fired) := goodIn_app (goodIn_of _ (by decide +kernel)) ggL_areGiven_X9_fired
set_option maxRecDepth 20000 in
theorem ggL_areGiven_X9_spares : GoodIn wsL_areGiven wsX9_spares := goodIn_r _ [189, 130, 28, 29, 30, 11, 31, 32, 33, 24, 34, 35, 36, 37, 38, 39, 40, 41, 42, 43, 44, 45, 46, 47, 48, 49, 50, 51, 52, 53, 54, 55, 56, 57, 58, 59, 60, 61, 62, 63, 64, 65, 66, 67, 68, 69, 70, 71, 72, 73, 74, 75, 76, 77, 78, 79, 80, 81, 82, 83, 84, 85, 86, 87, 88, 89, 90, 91, 92, 93, 94, 95, 96, 97, 98, 99, 100, 101, 102, 103, 104, 105, 106, 107, 108, 109, 110, 111, 112, 113, 114, 115, 116, 117, 118, 119, 120, 13, 121, 122, 123, 124, 125, 126, 127, 128, 129, 131, 132, 133, 134, 135, 136, 137, 138, 139, 140, 141, 142, 143, 144, 145, 146, 147, 148, 149, 190, 191, 192, 193, 203, 204, 205, 206, 207, 208, 209, 210, 211, 212, 213, 214, 215, 216, 217, 194, 195, 196, 197, 198, 199, 200, 201, 202, 218, 219, 220, 221, 222, 223, 224, 225, 226, 227, 228, 229, 230, 231, 232, 233, 234, 235, 236, 237, 238] (by decide +kernel) (by decide +kernel)
set_option maxRecDepth 20000 in
theorem gL_areGiven_X9_spares : GoodIn wsL_areGiven (wsV RL 141 RX9 yX9_spares wsX9_spares) := goodIn_app (goodIn_of _ (by decide +kernel)) ggL_areGiven_X9_spares
theorem dL_areGiven_0 : decode cL_areGiven 0 = .ok (.iconst 0, 1) := by decide +kernel
theorem dL_areGiven_1 : decode cL_areGiven 1 = .ok (.istore 4, 2) := by decide +kernel
theorem dL_areGiven_3 : decode cL_areGiven 3 = .ok (.iconst 0, 1) := by decide +kernel
theorem dL_areGiven_4 : decode cL_areGiven 4 = .ok (.istore 5, 2) := by decide +kernel
theorem dL_areGiven_6 : decode cL_areGiven 6 = .ok (.iconst 1, 1) := by decide +kernel
theorem dL_areGiven_7 : decode cL_areGiven 7 = .ok (.istore 6, 2) := by decide +kernel
theorem dL_areGiven_9 : decode cL_areGiven 9 = .ok (.iconst 0, 1) := by decide +kernel
theorem dL_areGiven_10 : decode cL_areGiven 10 = .ok (.istore 7, 2) := by decide +kernel
theorem dL_areGiven_12 : decode cL_areGiven 12 = .ok (.iload 7, 2) := by decide +kernel
theorem dL_areGiven_14 : decode cL_areGiven 14 = .ok (.aload_n 3, 1) := by decide +kernel
theorem dL_areGiven_15 : decode cL_areGiven 15 = .ok (.iconst 0, 1) := by decide +kernel
theorem dL_areGiven_16 : decode cL_areGiven 16 = .ok (.iaload, 1) := by decide +kernel
theorem dL_areGiven_17 : decode cL_areGiven 17 = .ok (.if_icmp .ge 153, 3) := by decide +kernel
theorem dL_areGiven_20 : decode cL_areGiven 20 = .ok (.aload_n 1, 1) := by decide +kernel
theorem dL_areGiven_21 : decode cL_areGiven 21 = .ok (.iload 7, 2) := by decide +kernel
theorem dL_areGiven_23 : decode cL_areGiven 23 = .ok (.iaload, 1) := by decide +kernel
theorem dL_areGiven_24 : decode cL_areGiven 24 = .ok (.sipush 4096, 3) := by decide +kernel
theorem dL_areGiven_27 : decode cL_areGiven 27 = .ok (.if_icmp .ge 137, 3) := by decide +kernel
theorem dL_areGiven_30 : decode cL_areGiven 30 = .ok (.aload_n 0, 1) := by decide +kernel
theorem dL_areGiven_31 : decode cL_areGiven 31 = .ok (.iload 7, 2) := by decide +kernel
theorem dL_areGiven_33 : decode cL_areGiven 33 = .ok (.invokestatic 120, 3) := by decide +kernel
theorem dL_areGiven_36 : decode cL_areGiven 36 = .ok (.istore 8, 2) := by decide +kernel
theorem dL_areGiven_38 : decode cL_areGiven 38 = .ok (.aload_n 0, 1) := by decide +kernel
theorem dL_areGiven_39 : decode cL_areGiven 39 = .ok (.iload 7, 2) := by decide +kernel
theorem dL_areGiven_41 : decode cL_areGiven 41 = .ok (.invokestatic 101, 3) := by decide +kernel
theorem dL_areGiven_44 : decode cL_areGiven 44 = .ok (.ifCond .ne 7, 3) := by decide +kernel
theorem dL_areGiven_47 : decode cL_areGiven 47 = .ok (.iconst 1, 1) := by decide +kernel
theorem dL_areGiven_48 : decode cL_areGiven 48 = .ok (.goto 4, 3) := by decide +kernel
theorem dL_areGiven_51 : decode cL_areGiven 51 = .ok (.iconst 0, 1) := by decide +kernel
theorem dL_areGiven_52 : decode cL_areGiven 52 = .ok (.istore 9, 2) := by decide +kernel
theorem dL_areGiven_54 : decode cL_areGiven 54 = .ok (.iload 4, 2) := by decide +kernel
theorem dL_areGiven_56 : decode cL_areGiven 56 = .ok (.iload 9, 2) := by decide +kernel
theorem dL_areGiven_58 : decode cL_areGiven 58 = .ok (.ifCond .eq 7, 3) := by decide +kernel
theorem dL_areGiven_61 : decode cL_areGiven 61 = .ok (.iconst 1, 1) := by decide +kernel
theorem dL_areGiven_62 : decode cL_areGiven 62 = .ok (.goto 4, 3) := by decide +kernel
theorem dL_areGiven_65 : decode cL_areGiven 65 = .ok (.iconst 0, 1) := by decide +kernel
theorem dL_areGiven_66 : decode cL_areGiven 66 = .ok (.iadd, 1) := by decide +kernel
theorem dL_areGiven_67 : decode cL_areGiven 67 = .ok (.istore 4, 2) := by decide +kernel
theorem dL_areGiven_69 : decode cL_areGiven 69 = .ok (.iload 6, 2) := by decide +kernel
theorem dL_areGiven_71 : decode cL_areGiven 71 = .ok (.ifCond .eq 66, 3) := by decide +kernel
theorem dL_areGiven_74 : decode cL_areGiven 74 = .ok (.iload 9, 2) := by decide +kernel
theorem dL_areGiven_76 : decode cL_areGiven 76 = .ok (.iload 8, 2) := by decide +kernel
theorem dL_areGiven_78 : decode cL_areGiven 78 = .ok (.ifCond .lt 7, 3) := by decide +kernel
theorem dL_areGiven_81 : decode cL_areGiven 81 = .ok (.iconst 1, 1) := by decide +kernel
theorem dL_areGiven_82 : decode cL_areGiven 82 = .ok (.goto 4, 3) := by decide +kernel
theorem dL_areGiven_85 : decode cL_areGiven 85 = .ok (.iconst 0, 1) := by decide +kernel
theorem dL_areGiven_86 : decode cL_areGiven 86 = .ok (.if_icmp .ne 51, 3) := by decide +kernel
theorem dL_areGiven_89 : decode cL_areGiven 89 = .ok (.iload 8, 2) := by decide +kernel
theorem dL_areGiven_91 : decode cL_areGiven 91 = .ok (.iconst (-1), 1) := by decide +kernel
theorem dL_areGiven_92 : decode cL_areGiven 92 = .ok (.if_icmp .lt 45, 3) := by decide +kernel
theorem dL_areGiven_95 : decode cL_areGiven 95 = .ok (.iload 8, 2) := by decide +kernel
theorem dL_areGiven_97 : decode cL_areGiven 97 = .ok (.bipush 32, 2) := by decide +kernel
theorem dL_areGiven_99 : decode cL_areGiven 99 = .ok (.if_icmp .ge 38, 3) := by decide +kernel
theorem dL_areGiven_102 : decode cL_areGiven 102 = .ok (.iload 8, 2) := by decide +kernel
theorem dL_areGiven_104 : decode cL_areGiven 104 = .ok (.ifCond .lt 29, 3) := by decide +kernel
theorem dL_areGiven_107 : decode cL_areGiven 107 = .ok (.aload_n 2, 1) := by decide +kernel
theorem dL_areGiven_108 : decode cL_areGiven 108 = .ok (.iload 8, 2) := by decide +kernel
theorem dL_areGiven_110 : decode cL_areGiven 110 = .ok (.iaload, 1) := by decide +kernel
theorem dL_areGiven_111 : decode cL_areGiven 111 = .ok (.ifCond .ne 26, 3) := by decide +kernel
theorem dL_areGiven_114 : decode cL_areGiven 114 = .ok (.aload_n 0, 1) := by decide +kernel
theorem dL_areGiven_115 : decode cL_areGiven 115 = .ok (.iload 8, 2) := by decide +kernel
theorem dL_areGiven_117 : decode cL_areGiven 117 = .ok (.bipush 8, 2) := by decide +kernel
theorem dL_areGiven_119 : decode cL_areGiven 119 = .ok (.idiv, 1) := by decide +kernel
theorem dL_areGiven_120 : decode cL_areGiven 120 = .ok (.iload 8, 2) := by decide +kernel
theorem dL_areGiven_122 : decode cL_areGiven 122 = .ok (.bipush 8, 2) := by decide +kernel
theorem dL_areGiven_124 : decode cL_areGiven 124 = .ok (.irem, 1) := by decide +kernel
theorem dL_areGiven_125 : decode cL_areGiven 125 = .ok (.invokestatic 134, 3) := by decide +kernel
theorem dL_areGiven_128 : decode cL_areGiven 128 = .ok (.iload 7, 2) := by decide +kernel
theorem dL_areGiven_130 : decode cL_areGiven 130 = .ok (.if_icmp .ne 7, 3) := by decide +kernel
theorem dL_areGiven_133 : decode cL_areGiven 133 = .ok (.iconst 1, 1) := by decide +kernel
theorem dL_areGiven_134 : decode cL_areGiven 134 = .ok (.goto 4, 3) := by decide +kernel
theorem dL_areGiven_137 : decode cL_areGiven 137 = .ok (.iconst 0, 1) := by decide +kernel
theorem dL_areGiven_138 : decode cL_areGiven 138 = .ok (.istore 6, 2) := by decide +kernel
theorem dL_areGiven_140 : decode cL_areGiven 140 = .ok (.iload 5, 2) := by decide +kernel
theorem dL_areGiven_142 : decode cL_areGiven 142 = .ok (.iload 8, 2) := by decide +kernel
theorem dL_areGiven_144 : decode cL_areGiven 144 = .ok (.ifCond .lt 16, 3) := by decide +kernel
theorem dL_areGiven_147 : decode cL_areGiven 147 = .ok (.iload 8, 2) := by decide +kernel
theorem dL_areGiven_149 : decode cL_areGiven 149 = .ok (.bipush 8, 2) := by decide +kernel
theorem dL_areGiven_151 : decode cL_areGiven 151 = .ok (.irem, 1) := by decide +kernel
theorem dL_areGiven_152 : decode cL_areGiven 152 = .ok (.iconst 5, 1) := by decide +kernel
theorem dL_areGiven_153 : decode cL_areGiven 153 = .ok (.if_icmp .le 7, 3) := by decide +kernel
theorem dL_areGiven_156 : decode cL_areGiven 156 = .ok (.iconst 1, 1) := by decide +kernel
theorem dL_areGiven_157 : decode cL_areGiven 157 = .ok (.goto 4, 3) := by decide +kernel
theorem dL_areGiven_160 : decode cL_areGiven 160 = .ok (.iconst 0, 1) := by decide +kernel
theorem dL_areGiven_161 : decode cL_areGiven 161 = .ok (.iadd, 1) := by decide +kernel
theorem dL_areGiven_162 : decode cL_areGiven 162 = .ok (.istore 5, 2) := by decide +kernel
theorem dL_areGiven_164 : decode cL_areGiven 164 = .ok (.iinc 7 1, 3) := by decide +kernel
theorem dL_areGiven_167 : decode cL_areGiven 167 = .ok (.goto (-155), 3) := by decide +kernel
theorem dL_areGiven_170 : decode cL_areGiven 170 = .ok (.iconst 0, 1) := by decide +kernel
theorem dL_areGiven_171 : decode cL_areGiven 171 = .ok (.istore 7, 2) := by decide +kernel
theorem dL_areGiven_173 : decode cL_areGiven 173 = .ok (.iload 7, 2) := by decide +kernel
theorem dL_areGiven_175 : decode cL_areGiven 175 = .ok (.iconst 4, 1) := by decide +kernel
theorem dL_areGiven_176 : decode cL_areGiven 176 = .ok (.if_icmp .ge 92, 3) := by decide +kernel
theorem dL_areGiven_179 : decode cL_areGiven 179 = .ok (.iload 6, 2) := by decide +kernel
theorem dL_areGiven_181 : decode cL_areGiven 181 = .ok (.ifCond .eq 87, 3) := by decide +kernel
theorem dL_areGiven_184 : decode cL_areGiven 184 = .ok (.sipush (-1000), 3) := by decide +kernel
theorem dL_areGiven_187 : decode cL_areGiven 187 = .ok (.istore 8, 2) := by decide +kernel
theorem dL_areGiven_189 : decode cL_areGiven 189 = .ok (.iconst 0, 1) := by decide +kernel
theorem dL_areGiven_190 : decode cL_areGiven 190 = .ok (.istore 9, 2) := by decide +kernel
theorem dL_areGiven_192 : decode cL_areGiven 192 = .ok (.iload 9, 2) := by decide +kernel
theorem dL_areGiven_194 : decode cL_areGiven 194 = .ok (.iload 4, 2) := by decide +kernel
theorem dL_areGiven_196 : decode cL_areGiven 196 = .ok (.if_icmp .ge 66, 3) := by decide +kernel
theorem dL_areGiven_199 : decode cL_areGiven 199 = .ok (.aload_n 0, 1) := by decide +kernel
theorem dL_areGiven_200 : decode cL_areGiven 200 = .ok (.iload 9, 2) := by decide +kernel
theorem dL_areGiven_202 : decode cL_areGiven 202 = .ok (.invokestatic 136, 3) := by decide +kernel
theorem dL_areGiven_205 : decode cL_areGiven 205 = .ok (.istore 10, 2) := by decide +kernel
theorem dL_areGiven_207 : decode cL_areGiven 207 = .ok (.aload_n 0, 1) := by decide +kernel
theorem dL_areGiven_208 : decode cL_areGiven 208 = .ok (.iload 10, 2) := by decide +kernel
theorem dL_areGiven_210 : decode cL_areGiven 210 = .ok (.invokestatic 120, 3) := by decide +kernel
theorem dL_areGiven_213 : decode cL_areGiven 213 = .ok (.bipush 8, 2) := by decide +kernel
theorem dL_areGiven_215 : decode cL_areGiven 215 = .ok (.idiv, 1) := by decide +kernel
theorem dL_areGiven_216 : decode cL_areGiven 216 = .ok (.iload 7, 2) := by decide +kernel
theorem dL_areGiven_218 : decode cL_areGiven 218 = .ok (.if_icmp .ne 38, 3) := by decide +kernel
theorem dL_areGiven_221 : decode cL_areGiven 221 = .ok (.iload 6, 2) := by decide +kernel
theorem dL_areGiven_223 : decode cL_areGiven 223 = .ok (.ifCond .eq 22, 3) := by decide +kernel
theorem dL_areGiven_226 : decode cL_areGiven 226 = .ok (.aload_n 0, 1) := by decide +kernel
theorem dL_areGiven_227 : decode cL_areGiven 227 = .ok (.iload 10, 2) := by decide +kernel
theorem dL_areGiven_229 : decode cL_areGiven 229 = .ok (.invokestatic 108, 3) := by decide +kernel
theorem dL_areGiven_232 : decode cL_areGiven 232 = .ok (.iload 8, 2) := by decide +kernel
theorem dL_areGiven_234 : decode cL_areGiven 234 = .ok (.isub, 1) := by decide +kernel
theorem dL_areGiven_235 : decode cL_areGiven 235 = .ok (.aload_n 3, 1) := by decide +kernel
theorem dL_areGiven_236 : decode cL_areGiven 236 = .ok (.iconst 3, 1) := by decide +kernel
theorem dL_areGiven_237 : decode cL_areGiven 237 = .ok (.iaload, 1) := by decide +kernel
theorem dL_areGiven_238 : decode cL_areGiven 238 = .ok (.if_icmp .lt 7, 3) := by decide +kernel
theorem dL_areGiven_241 : decode cL_areGiven 241 = .ok (.iconst 1, 1) := by decide +kernel
theorem dL_areGiven_242 : decode cL_areGiven 242 = .ok (.goto 4, 3) := by decide +kernel
theorem dL_areGiven_245 : decode cL_areGiven 245 = .ok (.iconst 0, 1) := by decide +kernel
theorem dL_areGiven_246 : decode cL_areGiven 246 = .ok (.istore 6, 2) := by decide +kernel
theorem dL_areGiven_248 : decode cL_areGiven 248 = .ok (.aload_n 0, 1) := by decide +kernel
theorem dL_areGiven_249 : decode cL_areGiven 249 = .ok (.iload 10, 2) := by decide +kernel
theorem dL_areGiven_251 : decode cL_areGiven 251 = .ok (.invokestatic 108, 3) := by decide +kernel
theorem dL_areGiven_254 : decode cL_areGiven 254 = .ok (.istore 8, 2) := by decide +kernel
theorem dL_areGiven_256 : decode cL_areGiven 256 = .ok (.iinc 9 1, 3) := by decide +kernel
theorem dL_areGiven_259 : decode cL_areGiven 259 = .ok (.goto (-67), 3) := by decide +kernel
