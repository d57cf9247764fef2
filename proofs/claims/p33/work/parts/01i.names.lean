theorem dX9_found_30 : decode cX9_found 30 = .ok (.aload_n 0, 1) := by decide +kernel
theorem dX9_found_31 : decode cX9_found 31 = .ok (.getfield 44, 3) := by decide +kernel
theorem dX9_found_34 : decode cX9_found 34 = .ok (.iload_n 1, 1) := by decide +kernel
theorem dX9_found_35 : decode cX9_found 35 = .ok (.aaload, 1) := by decide +kernel
theorem dX9_found_36 : decode cX9_found 36 = .ok (.areturn, 1) := by decide +kernel
set_option maxRecDepth 20000 in
theorem ggX9_foundAndPlanned_X9_found : GoodIn wsX9_foundAndPlanned wsX9_found := goodIn_ca (goodIn_r _ [5, 6, 7, 8, 9, 10, 4, 11, 135, 136, 137, 138, 139, 140, 141, 142, 143, 144, 145, 146, 147, 148, 149] (by decide +kernel) (by decide +kernel)) (goodIn_sub (fun _ h => List.mem_cons_of_mem _ (List.mem_append_right _ h)) (by decide +kernel))
set_option maxRecDepth 20000 in
theorem gX9_foundAndPlanned_X9_found : GoodIn wsX9_foundAndPlanned (wsV RX9 176 RX9 yX9_found wsX9_found) := goodIn_app (goodIn_of _ (by decide +kernel)) ggX9_foundAndPlanned_X9_found
set_option maxRecDepth 20000 in
theorem ggX9_foundAndPlanned_X9_plan : GoodIn wsX9_foundAndPlanned wsX9_plan := goodIn_r _ [15, 16, 17, 8, 18, 19, 20, 4, 21, 22, 23, 24, 25, 26, 27, 28, 29, 30, 31, 32, 33, 34, 35, 36, 37, 38, 39, 40, 41, 42, 43, 44, 45, 46, 47, 48, 49, 50, 51, 52, 53, 54, 55, 56, 57, 58, 59, 60, 61, 62, 63, 64, 65, 66, 67, 68, 69, 70, 71, 72, 73, 74, 75, 76, 77, 78, 79, 80, 81, 82, 83, 84, 85, 86, 87, 88, 89, 90, 91, 92, 93, 94, 95, 96, 97, 98, 99, 100, 101, 102, 103, 104, 105, 106, 107, 108, 109, 110, 111, 112, 113, 114, 115, 116, 117, 118, 119, 120, 121, 122, 123, 124, 125, 126, 127, 128, 129, 130, 131, 132, 133, 134, 135, 136, 137, 138, 139, 140, 141, 142, 143, 144, 145, 146, 147, 148, 149, 150, 151, 152, 153, 154, 155, 156, 157, 158, 159, 160, 161, 162, 163, 164, 165, 166, 167, 168, 169, 170, 171, 172, 173, 174, 175, 176, 177, 178, 179] (by decide +kernel) (by decide +kernel)
set_option maxRecDepth 20000 in
theorem gX9_foundAndPlanned_X9_plan : GoodIn wsX9_foundAndPlanned (wsV RX9 250 RX9 yX9_plan wsX9_plan) := goodIn_app (goodIn_of _ (by decide +kernel)) ggX9_foundAndPlanned_X9_plan
theorem dX9_foundAndPlanned_0 : decode cX9_foundAndPlanned 0 = .ok (.aload_n 0, 1) := by decide +kernel
theorem dX9_foundAndPlanned_1 : decode cX9_foundAndPlanned 1 = .ok (.iload_n 1, 1) := by decide +kernel
theorem dX9_foundAndPlanned_2 : decode cX9_foundAndPlanned 2 = .ok (.invokevirtual 176, 3) := by decide +kernel
theorem dX9_foundAndPlanned_5 : decode cX9_foundAndPlanned 5 = .ok (.astore_n 2, 1) := by decide +kernel
theorem dX9_foundAndPlanned_6 : decode cX9_foundAndPlanned 6 = .ok (.aload_n 0, 1) := by decide +kernel
theorem dX9_foundAndPlanned_7 : decode cX9_foundAndPlanned 7 = .ok (.invokevirtual 250, 3) := by decide +kernel
theorem dX9_foundAndPlanned_10 : decode cX9_foundAndPlanned 10 = .ok (.aload_n 2, 1) := by decide +kernel
theorem dX9_foundAndPlanned_11 : decode cX9_foundAndPlanned 11 = .ok (.areturn, 1) := by decide +kernel
set_option maxRecDepth 20000 in
theorem ggX9_fallX_X7_middleX : GoodIn wsX9_fallX wsX7_middleX := goodIn_r _ [9, 10, 43, 44] (by decide +kernel) (by decide +kernel)
set_option maxRecDepth 20000 in
theorem gX9_fallX_X7_middleX : GoodIn wsX9_fallX (wsV RX9 297 RX7 yX7_middleX wsX7_middleX) := goodIn_app (goodIn_of _ (by decide +kernel)) ggX9_fallX_X7_middleX
set_option maxRecDepth 20000 in
theorem ggX9_fallX_X6_drift : GoodIn wsX9_fallX wsX6_drift := goodIn_r _ [15, 16, 45, 46, 47, 48, 49, 50, 51] (by decide +kernel) (by decide +kernel)
set_option maxRecDepth 20000 in
theorem gX9_fallX_X6_drift : GoodIn wsX9_fallX (wsV RX9 300 RX6 yX6_drift wsX6_drift) := goodIn_app (goodIn_of _ (by decide +kernel)) ggX9_fallX_X6_drift
theorem dX9_fallX_0 : decode cX9_fallX 0 = .ok (.aload_n 1, 1) := by decide +kernel
theorem dX9_fallX_1 : decode cX9_fallX 1 = .ok (.getfield 214, 3) := by decide +kernel
theorem dX9_fallX_4 : decode cX9_fallX 4 = .ok (.invokevirtual 297, 3) := by decide +kernel
theorem dX9_fallX_7 : decode cX9_fallX 7 = .ok (.aload_n 1, 1) := by decide +kernel
theorem dX9_fallX_8 : decode cX9_fallX 8 = .ok (.getfield 210, 3) := by decide +kernel
theorem dX9_fallX_11 : decode cX9_fallX 11 = .ok (.aload_n 0, 1) := by decide +kernel
theorem dX9_fallX_12 : decode cX9_fallX 12 = .ok (.getfield 31, 3) := by decide +kernel
theorem dX9_fallX_15 : decode cX9_fallX 15 = .ok (.getfield 128, 3) := by decide +kernel
theorem dX9_fallX_18 : decode cX9_fallX 18 = .ok (.invokevirtual 300, 3) := by decide +kernel
theorem dX9_fallX_21 : decode cX9_fallX 21 = .ok (.iadd, 1) := by decide +kernel
theorem dX9_fallX_22 : decode cX9_fallX 22 = .ok (.ireturn, 1) := by decide +kernel
set_option maxRecDepth 20000 in
theorem ggX9_fallY_X7_middleY : GoodIn wsX9_fallY wsX7_middleY := goodIn_r _ [9, 10, 43, 44] (by decide +kernel) (by decide +kernel)
set_option maxRecDepth 20000 in
theorem gX9_fallY_X7_middleY : GoodIn wsX9_fallY (wsV RX9 304 RX7 yX7_middleY wsX7_middleY) := goodIn_app (goodIn_of _ (by decide +kernel)) ggX9_fallY_X7_middleY
set_option maxRecDepth 20000 in
theorem ggX9_fallY_X6_drift : GoodIn wsX9_fallY wsX6_drift := goodIn_r _ [15, 16, 45, 46, 47, 48, 49, 50, 51] (by decide +kernel) (by decide +kernel)
set_option maxRecDepth 20000 in
theorem gX9_fallY_X6_drift : GoodIn wsX9_fallY (wsV RX9 300 RX6 yX6_drift wsX6_drift) := goodIn_app (goodIn_of _ (by decide +kernel)) ggX9_fallY_X6_drift
theorem dX9_fallY_0 : decode cX9_fallY 0 = .ok (.aload_n 1, 1) := by decide +kernel
theorem dX9_fallY_1 : decode cX9_fallY 1 = .ok (.getfield 214, 3) := by decide +kernel
theorem dX9_fallY_4 : decode cX9_fallY 4 = .ok (.invokevirtual 304, 3) := by decide +kernel
theorem dX9_fallY_7 : decode cX9_fallY 7 = .ok (.aload_n 1, 1) := by decide +kernel
theorem dX9_fallY_8 : decode cX9_fallY 8 = .ok (.getfield 210, 3) := by decide +kernel
theorem dX9_fallY_11 : decode cX9_fallY 11 = .ok (.aload_n 0, 1) := by decide +kernel
theorem dX9_fallY_12 : decode cX9_fallY 12 = .ok (.getfield 31, 3) := by decide +kernel
theorem dX9_fallY_15 : decode cX9_fallY 15 = .ok (.getfield 131, 3) := by decide +kernel
theorem dX9_fallY_18 : decode cX9_fallY 18 = .ok (.invokevirtual 300, 3) := by decide +kernel
theorem dX9_fallY_21 : decode cX9_fallY 21 = .ok (.iadd, 1) := by decide +kernel
theorem dX9_fallY_22 : decode cX9_fallY 22 = .ok (.ireturn, 1) := by decide +kernel
set_option maxRecDepth 20000 in
theorem ggX9_plan_X9_strikeCues : GoodIn wsX9_plan wsX9_strikeCues := goodIn_r _ [8, 9, 3, 10, 11, 12, 13, 14, 15, 16, 17, 18, 19, 20, 21, 22, 7, 23, 24, 25, 26, 27, 28, 29, 30, 31, 32, 33, 34, 35, 36, 37, 38, 39, 40, 41, 42, 43, 44, 45, 46, 47, 48, 49, 50, 51, 52, 53, 54, 55, 56, 57, 58, 59, 60, 61, 62, 63, 64, 65, 122, 123, 124, 125, 126, 127, 128, 129, 130, 131, 132, 133, 134, 135, 136, 137, 138, 139, 140, 141, 142, 143, 144, 145, 146, 147, 148, 149, 150, 151, 152, 153, 154, 155, 156, 157, 158] (by decide +kernel) (by decide +kernel)
set_option maxRecDepth 20000 in
theorem gX9_plan_X9_strikeCues : GoodIn wsX9_plan (wsV RX9 307 RX9 yX9_strikeCues wsX9_strikeCues) := goodIn_app (goodIn_of _ (by decide +kernel)) ggX9_plan_X9_strikeCues
set_option maxRecDepth 20000 in
theorem ggX9_plan_X0_closeUp : GoodIn wsX9_plan wsX0_closeUp := goodIn_r _ [70, 71, 72, 73, 74, 75, 76, 77, 78, 79, 80, 159, 160, 161, 162, 137, 138, 139, 140, 141, 142, 143, 144, 145] (by decide +kernel) (by decide +kernel)
set_option maxRecDepth 20000 in
theorem gX9_plan_X0_closeUp : GoodIn wsX9_plan (wsV RX9 310 RX0 yX0_closeUp wsX0_closeUp) := goodIn_app (goodIn_of _ (by decide +kernel)) ggX9_plan_X0_closeUp
set_option maxRecDepth 20000 in
theorem ggX9_plan_X9_queueUp : GoodIn wsX9_plan wsX9_queueUp := goodIn_r _ [84, 85, 3, 86, 2, 87, 88, 89, 10, 90, 91, 92, 13, 93, 94, 95, 7, 96, 97, 122, 123, 124, 125, 126, 127, 128, 129, 130, 131, 132, 133, 134, 135, 136, 137, 138, 139, 140, 141, 142, 143, 144, 145, 159, 160, 161, 162, 146, 147, 148, 149, 150, 151, 152] (by decide +kernel) (by decide +kernel)
set_option maxRecDepth 20000 in
theorem gX9_plan_X9_queueUp : GoodIn wsX9_plan (wsV RX9 314 RX9 yX9_queueUp wsX9_queueUp) := goodIn_app (goodIn_of _ (by decide +kernel)) ggX9_plan_X9_queueUp
set_option maxRecDepth 20000 in
theorem ggX9_plan_X9_giveChannels : GoodIn wsX9_plan wsX9_giveChannels := goodIn_r _ [101, 102, 85, 97, 103, 91, 92, 13, 104, 105, 106, 107, 108, 109, 110, 111, 78, 79, 80, 112, 113, 114, 115, 116, 117, 118, 119, 120, 121, 122, 123, 124, 125, 126, 127, 128, 129, 130, 131, 132, 133, 134, 135, 136, 137, 138, 139, 140, 141, 142, 143, 144, 145, 163, 164, 165, 166] (by decide +kernel) (by decide +kernel)
set_option maxRecDepth 20000 in
theorem gX9_plan_X9_giveChannels : GoodIn wsX9_plan (wsV RX9 317 RX9 yX9_giveChannels wsX9_giveChannels) := goodIn_app (goodIn_of _ (by decide +kernel)) ggX9_plan_X9_giveChannels
theorem dX9_plan_0 : decode cX9_plan 0 = .ok (.aload_n 0, 1) := by decide +kernel
theorem dX9_plan_1 : decode cX9_plan 1 = .ok (.getfield 82, 3) := by decide +kernel
theorem dX9_plan_4 : decode cX9_plan 4 = .ok (.ifCond .eq 4, 3) := by decide +kernel
theorem dX9_plan_7 : decode cX9_plan 7 = .ok (.return_, 1) := by decide +kernel
theorem dX9_plan_8 : decode cX9_plan 8 = .ok (.aload_n 0, 1) := by decide +kernel
theorem dX9_plan_9 : decode cX9_plan 9 = .ok (.iconst 1, 1) := by decide +kernel
theorem dX9_plan_10 : decode cX9_plan 10 = .ok (.putfield 82, 3) := by decide +kernel
theorem dX9_plan_13 : decode cX9_plan 13 = .ok (.aload_n 0, 1) := by decide +kernel
theorem dX9_plan_14 : decode cX9_plan 14 = .ok (.invokevirtual 307, 3) := by decide +kernel
theorem dX9_plan_17 : decode cX9_plan 17 = .ok (.aload_n 0, 1) := by decide +kernel
theorem dX9_plan_18 : decode cX9_plan 18 = .ok (.getfield 51, 3) := by decide +kernel
theorem dX9_plan_21 : decode cX9_plan 21 = .ok (.aload_n 0, 1) := by decide +kernel
theorem dX9_plan_22 : decode cX9_plan 22 = .ok (.getfield 44, 3) := by decide +kernel
theorem dX9_plan_25 : decode cX9_plan 25 = .ok (.invokevirtual 310, 3) := by decide +kernel
theorem dX9_plan_28 : decode cX9_plan 28 = .ok (.aload_n 0, 1) := by decide +kernel
theorem dX9_plan_29 : decode cX9_plan 29 = .ok (.invokevirtual 314, 3) := by decide +kernel
theorem dX9_plan_32 : decode cX9_plan 32 = .ok (.aload_n 0, 1) := by decide +kernel
theorem dX9_plan_33 : decode cX9_plan 33 = .ok (.invokevirtual 317, 3) := by decide +kernel
theorem dX9_plan_36 : decode cX9_plan 36 = .ok (.return_, 1) := by decide +kernel
set_option maxRecDepth 20000 in
theorem ggX9_strikeCues_X4_zonesWithPeople : GoodIn wsX9_strikeCues wsX4_zonesWithPeople := goodIn_r _ [11, 12, 91, 92] (by decide +kernel) (by decide +kernel)
set_option maxRecDepth 20000 in
theorem gX9_strikeCues_X4_zonesWithPeople : GoodIn wsX9_strikeCues (wsV RX9 153 RX4 yX4_zonesWithPeople wsX4_zonesWithPeople) := goodIn_app (goodIn_of _ (by decide +kernel)) ggX9_strikeCues_X4_zonesWithPeople
set_option maxRecDepth 20000 in
theorem ggX9_strikeCues_X9_fallX : GoodIn wsX9_strikeCues wsX9_fallX := goodIn_r _ [17, 18, 3, 19, 20, 21, 22, 23, 24, 25, 26, 27, 28, 29, 30, 31, 32, 75, 76, 77, 78, 79, 80, 81, 82, 83, 60, 61, 62, 63, 64, 65, 66, 67, 68, 69, 70, 71, 72, 73, 74, 93, 94, 95, 96, 84, 85, 86, 87, 88, 89, 90] (by decide +kernel) (by decide +kernel)
set_option maxRecDepth 20000 in
theorem gX9_strikeCues_X9_fallX : GoodIn wsX9_strikeCues (wsV RX9 199 RX9 yX9_fallX wsX9_fallX) := goodIn_app (goodIn_of _ (by decide +kernel)) ggX9_strikeCues_X9_fallX
set_option maxRecDepth 20000 in
theorem ggX9_strikeCues_J9_floorDiv_7cf53 : GoodIn wsX9_strikeCues wsJ9_floorDiv_7cf53 := goodIn_r _ [36] (by decide +kernel) (by decide +kernel)
set_option maxRecDepth 20000 in
theorem gX9_strikeCues_J9_floorDiv_7cf53 : GoodIn wsX9_strikeCues (va_wsS RX9 290 yJ9_floorDiv_7cf53 wsJ9_floorDiv_7cf53) := goodIn_app (goodIn_of _ (by decide +kernel)) ggX9_strikeCues_J9_floorDiv_7cf53
set_option maxRecDepth 20000 in
theorem ggX9_strikeCues_X9_fallY : GoodIn wsX9_strikeCues wsX9_fallY := goodIn_r _ [40, 18, 3, 19, 41, 42, 43, 44, 24, 45, 46, 27, 28, 29, 30, 31, 32, 75, 76, 77, 78, 79, 80, 81, 82, 83, 60, 61, 62, 63, 64, 65, 66, 67, 68, 69, 70, 71, 72, 73, 74, 93, 94, 95, 96, 84, 85, 86, 87, 88, 89, 90] (by decide +kernel) (by decide +kernel)
set_option maxRecDepth 20000 in
theorem gX9_strikeCues_X9_fallY : GoodIn wsX9_strikeCues (wsV RX9 203 RX9 yX9_fallY wsX9_fallY) := goodIn_app (goodIn_of _ (by decide +kernel)) ggX9_strikeCues_X9_fallY
set_option maxRecDepth 20000 in
theorem ggX9_strikeCues_X9_zonesAround : GoodIn wsX9_strikeCues wsX9_zonesAround := goodIn_r _ [49, 50, 51, 52, 53, 54, 55, 56, 57, 58, 16, 59] (by decide +kernel) (by decide +kernel)
set_option maxRecDepth 20000 in
theorem gX9_strikeCues_X9_zonesAround : GoodIn wsX9_strikeCues (va_wsS RX9 323 yX9_zonesAround wsX9_zonesAround) := goodIn_app (goodIn_of _ (by decide +kernel)) ggX9_strikeCues_X9_zonesAround
theorem dX9_strikeCues_0 : decode cX9_strikeCues 0 = .ok (.aload_n 0, 1) := by decide +kernel
theorem dX9_strikeCues_1 : decode cX9_strikeCues 1 = .ok (.getfield 10, 3) := by decide +kernel
theorem dX9_strikeCues_4 : decode cX9_strikeCues 4 = .ok (.invokevirtual 153, 3) := by decide +kernel
theorem dX9_strikeCues_7 : decode cX9_strikeCues 7 = .ok (.lstore_n 1, 1) := by decide +kernel
theorem dX9_strikeCues_8 : decode cX9_strikeCues 8 = .ok (.aload_n 0, 1) := by decide +kernel
theorem dX9_strikeCues_9 : decode cX9_strikeCues 9 = .ok (.getfield 44, 3) := by decide +kernel
theorem dX9_strikeCues_12 : decode cX9_strikeCues 12 = .ok (.astore_n 3, 1) := by decide +kernel
theorem dX9_strikeCues_13 : decode cX9_strikeCues 13 = .ok (.aload_n 3, 1) := by decide +kernel
theorem dX9_strikeCues_14 : decode cX9_strikeCues 14 = .ok (.arraylength, 1) := by decide +kernel
theorem dX9_strikeCues_15 : decode cX9_strikeCues 15 = .ok (.istore 4, 2) := by decide +kernel
theorem dX9_strikeCues_17 : decode cX9_strikeCues 17 = .ok (.iconst 0, 1) := by decide +kernel
theorem dX9_strikeCues_18 : decode cX9_strikeCues 18 = .ok (.istore 5, 2) := by decide +kernel
theorem dX9_strikeCues_20 : decode cX9_strikeCues 20 = .ok (.iload 5, 2) := by decide +kernel
theorem dX9_strikeCues_22 : decode cX9_strikeCues 22 = .ok (.iload 4, 2) := by decide +kernel
theorem dX9_strikeCues_24 : decode cX9_strikeCues 24 = .ok (.if_icmp .ge 88, 3) := by decide +kernel
theorem dX9_strikeCues_27 : decode cX9_strikeCues 27 = .ok (.aload_n 3, 1) := by decide +kernel
theorem dX9_strikeCues_28 : decode cX9_strikeCues 28 = .ok (.iload 5, 2) := by decide +kernel
theorem dX9_strikeCues_30 : decode cX9_strikeCues 30 = .ok (.aaload, 1) := by decide +kernel
theorem dX9_strikeCues_31 : decode cX9_strikeCues 31 = .ok (.astore 6, 2) := by decide +kernel
theorem dX9_strikeCues_33 : decode cX9_strikeCues 33 = .ok (.aload 6, 2) := by decide +kernel
theorem dX9_strikeCues_35 : decode cX9_strikeCues 35 = .ok (.ifnull 71, 3) := by decide +kernel
theorem dX9_strikeCues_38 : decode cX9_strikeCues 38 = .ok (.aload_n 0, 1) := by decide +kernel
theorem dX9_strikeCues_39 : decode cX9_strikeCues 39 = .ok (.aload 6, 2) := by decide +kernel
theorem dX9_strikeCues_41 : decode cX9_strikeCues 41 = .ok (.invokevirtual 199, 3) := by decide +kernel
theorem dX9_strikeCues_44 : decode cX9_strikeCues 44 = .ok (.bipush 100, 2) := by decide +kernel
theorem dX9_strikeCues_46 : decode cX9_strikeCues 46 = .ok (.invokestatic 290, 3) := by decide +kernel
theorem dX9_strikeCues_49 : decode cX9_strikeCues 49 = .ok (.istore 7, 2) := by decide +kernel
theorem dX9_strikeCues_51 : decode cX9_strikeCues 51 = .ok (.aload_n 0, 1) := by decide +kernel
theorem dX9_strikeCues_52 : decode cX9_strikeCues 52 = .ok (.aload 6, 2) := by decide +kernel
theorem dX9_strikeCues_54 : decode cX9_strikeCues 54 = .ok (.invokevirtual 203, 3) := by decide +kernel
theorem dX9_strikeCues_57 : decode cX9_strikeCues 57 = .ok (.bipush 100, 2) := by decide +kernel
theorem dX9_strikeCues_59 : decode cX9_strikeCues 59 = .ok (.invokestatic 290, 3) := by decide +kernel
theorem dX9_strikeCues_62 : decode cX9_strikeCues 62 = .ok (.istore 8, 2) := by decide +kernel
theorem dX9_strikeCues_64 : decode cX9_strikeCues 64 = .ok (.aload 6, 2) := by decide +kernel
theorem dX9_strikeCues_66 : decode cX9_strikeCues 66 = .ok (.iload 7, 2) := by decide +kernel
theorem dX9_strikeCues_68 : decode cX9_strikeCues 68 = .ok (.iload 8, 2) := by decide +kernel
theorem dX9_strikeCues_70 : decode cX9_strikeCues 70 = .ok (.aload 6, 2) := by decide +kernel
theorem dX9_strikeCues_72 : decode cX9_strikeCues 72 = .ok (.getfield 210, 3) := by decide +kernel
theorem dX9_strikeCues_75 : decode cX9_strikeCues 75 = .ok (.getfield 320, 3) := by decide +kernel
theorem dX9_strikeCues_78 : decode cX9_strikeCues 78 = .ok (.invokestatic 323, 3) := by decide +kernel
theorem dX9_strikeCues_81 : decode cX9_strikeCues 81 = .ok (.putfield 246, 3) := by decide +kernel
theorem dX9_strikeCues_84 : decode cX9_strikeCues 84 = .ok (.aload 6, 2) := by decide +kernel
theorem dX9_strikeCues_86 : decode cX9_strikeCues 86 = .ok (.aload 6, 2) := by decide +kernel
theorem dX9_strikeCues_88 : decode cX9_strikeCues 88 = .ok (.getfield 246, 3) := by decide +kernel
theorem dX9_strikeCues_91 : decode cX9_strikeCues 91 = .ok (.lload_n 1, 1) := by decide +kernel
theorem dX9_strikeCues_92 : decode cX9_strikeCues 92 = .ok (.land, 1) := by decide +kernel
theorem dX9_strikeCues_93 : decode cX9_strikeCues 93 = .ok (.lconst 0, 1) := by decide +kernel
theorem dX9_strikeCues_94 : decode cX9_strikeCues 94 = .ok (.lcmp, 1) := by decide +kernel
theorem dX9_strikeCues_95 : decode cX9_strikeCues 95 = .ok (.ifCond .eq 7, 3) := by decide +kernel
theorem dX9_strikeCues_98 : decode cX9_strikeCues 98 = .ok (.iconst 1, 1) := by decide +kernel
theorem dX9_strikeCues_99 : decode cX9_strikeCues 99 = .ok (.goto 4, 3) := by decide +kernel
theorem dX9_strikeCues_102 : decode cX9_strikeCues 102 = .ok (.iconst 0, 1) := by decide +kernel
theorem dX9_strikeCues_103 : decode cX9_strikeCues 103 = .ok (.putfield 188, 3) := by decide +kernel
theorem dX9_strikeCues_106 : decode cX9_strikeCues 106 = .ok (.iinc 5 1, 3) := by decide +kernel
theorem dX9_strikeCues_109 : decode cX9_strikeCues 109 = .ok (.goto (-89), 3) := by decide +kernel
theorem dX9_strikeCues_112 : decode cX9_strikeCues 112 = .ok (.return_, 1) := by decide +kernel
set_option maxRecDepth 20000 in
theorem ggX9_zonesAround_X9_zoneOf : GoodIn wsX9_zonesAround wsX9_zoneOf := goodIn_r _ [11] (by decide +kernel) (by decide +kernel)
set_option maxRecDepth 20000 in
theorem gX9_zonesAround_X9_zoneOf : GoodIn wsX9_zonesAround (va_wsS RX9 109 yX9_zoneOf wsX9_zoneOf) := goodIn_app (goodIn_of _ (by decide +kernel)) ggX9_zonesAround_X9_zoneOf
theorem dX9_zonesAround_0 : decode cX9_zonesAround 0 = .ok (.lconst 0, 1) := by decide +kernel
theorem dX9_zonesAround_1 : decode cX9_zonesAround 1 = .ok (.lstore_n 3, 1) := by decide +kernel
theorem dX9_zonesAround_2 : decode cX9_zonesAround 2 = .ok (.iconst 0, 1) := by decide +kernel
theorem dX9_zonesAround_3 : decode cX9_zonesAround 3 = .ok (.iload_n 1, 1) := by decide +kernel
theorem dX9_zonesAround_4 : decode cX9_zonesAround 4 = .ok (.iload_n 2, 1) := by decide +kernel
theorem dX9_zonesAround_5 : decode cX9_zonesAround 5 = .ok (.isub, 1) := by decide +kernel
theorem dX9_zonesAround_6 : decode cX9_zonesAround 6 = .ok (.invokestatic 327, 3) := by decide +kernel
theorem dX9_zonesAround_9 : decode cX9_zonesAround 9 = .ok (.istore 5, 2) := by decide +kernel
theorem dX9_zonesAround_11 : decode cX9_zonesAround 11 = .ok (.iload 5, 2) := by decide +kernel
theorem dX9_zonesAround_13 : decode cX9_zonesAround 13 = .ok (.bipush 7, 2) := by decide +kernel
theorem dX9_zonesAround_15 : decode cX9_zonesAround 15 = .ok (.iload_n 1, 1) := by decide +kernel
theorem dX9_zonesAround_16 : decode cX9_zonesAround 16 = .ok (.iload_n 2, 1) := by decide +kernel
theorem dX9_zonesAround_17 : decode cX9_zonesAround 17 = .ok (.iadd, 1) := by decide +kernel
theorem dX9_zonesAround_18 : decode cX9_zonesAround 18 = .ok (.invokestatic 330, 3) := by decide +kernel
theorem dX9_zonesAround_21 : decode cX9_zonesAround 21 = .ok (.if_icmp .gt 49, 3) := by decide +kernel
theorem dX9_zonesAround_24 : decode cX9_zonesAround 24 = .ok (.iconst 0, 1) := by decide +kernel
theorem dX9_zonesAround_25 : decode cX9_zonesAround 25 = .ok (.iload_n 0, 1) := by decide +kernel
theorem dX9_zonesAround_26 : decode cX9_zonesAround 26 = .ok (.iload_n 2, 1) := by decide +kernel
theorem dX9_zonesAround_27 : decode cX9_zonesAround 27 = .ok (.isub, 1) := by decide +kernel
theorem dX9_zonesAround_28 : decode cX9_zonesAround 28 = .ok (.invokestatic 327, 3) := by decide +kernel
theorem dX9_zonesAround_31 : decode cX9_zonesAround 31 = .ok (.istore 6, 2) := by decide +kernel
theorem dX9_zonesAround_33 : decode cX9_zonesAround 33 = .ok (.iload 6, 2) := by decide +kernel
theorem dX9_zonesAround_35 : decode cX9_zonesAround 35 = .ok (.bipush 7, 2) := by decide +kernel
theorem dX9_zonesAround_37 : decode cX9_zonesAround 37 = .ok (.iload_n 0, 1) := by decide +kernel
theorem dX9_zonesAround_38 : decode cX9_zonesAround 38 = .ok (.iload_n 2, 1) := by decide +kernel
theorem dX9_zonesAround_39 : decode cX9_zonesAround 39 = .ok (.iadd, 1) := by decide +kernel
theorem dX9_zonesAround_40 : decode cX9_zonesAround 40 = .ok (.invokestatic 330, 3) := by decide +kernel
theorem dX9_zonesAround_43 : decode cX9_zonesAround 43 = .ok (.if_icmp .gt 21, 3) := by decide +kernel
theorem dX9_zonesAround_46 : decode cX9_zonesAround 46 = .ok (.lload_n 3, 1) := by decide +kernel
theorem dX9_zonesAround_47 : decode cX9_zonesAround 47 = .ok (.lconst 1, 1) := by decide +kernel
theorem dX9_zonesAround_48 : decode cX9_zonesAround 48 = .ok (.iload 6, 2) := by decide +kernel
theorem dX9_zonesAround_50 : decode cX9_zonesAround 50 = .ok (.iload 5, 2) := by decide +kernel
theorem dX9_zonesAround_52 : decode cX9_zonesAround 52 = .ok (.invokestatic 109, 3) := by decide +kernel
theorem dX9_zonesAround_55 : decode cX9_zonesAround 55 = .ok (.lshl, 1) := by decide +kernel
theorem dX9_zonesAround_56 : decode cX9_zonesAround 56 = .ok (.lor, 1) := by decide +kernel
theorem dX9_zonesAround_57 : decode cX9_zonesAround 57 = .ok (.lstore_n 3, 1) := by decide +kernel
theorem dX9_zonesAround_58 : decode cX9_zonesAround 58 = .ok (.iinc 6 1, 3) := by decide +kernel
theorem dX9_zonesAround_61 : decode cX9_zonesAround 61 = .ok (.goto (-28), 3) := by decide +kernel
theorem dX9_zonesAround_64 : decode cX9_zonesAround 64 = .ok (.iinc 5 1, 3) := by decide +kernel
theorem dX9_zonesAround_67 : decode cX9_zonesAround 67 = .ok (.goto (-56), 3) := by decide +kernel
theorem dX9_zonesAround_70 : decode cX9_zonesAround 70 = .ok (.lload_n 3, 1) := by decide +kernel
theorem dX9_zonesAround_71 : decode cX9_zonesAround 71 = .ok (.lreturn, 1) := by decide +kernel
set_option maxRecDepth 20000 in
theorem ggX9_struckCues_X9_plan : GoodIn wsX9_struckCues wsX9_plan := goodIn_r _ [8, 9, 10, 1, 11, 12, 13, 7, 14, 15, 16, 17, 18, 2, 19, 20, 21, 22, 23, 24, 25, 26, 27, 28, 29, 30, 31, 32, 33, 34, 35, 36, 37, 38, 39, 40, 41, 42, 43, 44, 45, 46, 47, 48, 49, 50, 51, 52, 53, 54, 55, 56, 57, 58, 59, 60, 61, 62, 63, 64, 65, 66, 67, 68, 69, 70, 71, 72, 73, 74, 75, 76, 77, 78, 79, 80, 81, 82, 83, 84, 85, 86, 87, 88, 89, 90, 91, 92, 93, 94, 95, 96, 97, 98, 99, 100, 101, 102, 103, 104, 105, 106, 107, 3, 108, 109, 110, 111, 112, 113, 114, 115, 116, 117, 118, 119, 120, 121, 122, 123, 124, 125, 126, 127, 128, 129, 130, 131, 132, 133, 134, 135, 136, 137, 138, 139, 140, 141, 142, 143, 144, 145, 146, 147, 148, 149, 150, 151, 152, 153, 154, 155, 156, 157, 158, 159, 160, 161, 162, 163, 164, 165, 166, 167, 168, 169, 170] (by decide +kernel) (by decide +kernel)
set_option maxRecDepth 20000 in
theorem gX9_struckCues_X9_plan : GoodIn wsX9_struckCues (wsV RX9 250 RX9 yX9_plan wsX9_plan) := goodIn_app (goodIn_of _ (by decide +kernel)) ggX9_struckCues_X9_plan
theorem dX9_struckCues_0 : decode cX9_struckCues 0 = .ok (.aload_n 0, 1) := by decide +kernel
theorem dX9_struckCues_1 : decode cX9_struckCues 1 = .ok (.invokevirtual 250, 3) := by decide +kernel
theorem dX9_struckCues_4 : decode cX9_struckCues 4 = .ok (.lconst 0, 1) := by decide +kernel
theorem dX9_struckCues_5 : decode cX9_struckCues 5 = .ok (.lstore_n 1, 1) := by decide +kernel
theorem dX9_struckCues_6 : decode cX9_struckCues 6 = .ok (.aload_n 0, 1) := by decide +kernel
theorem dX9_struckCues_7 : decode cX9_struckCues 7 = .ok (.getfield 44, 3) := by decide +kernel
theorem dX9_struckCues_10 : decode cX9_struckCues 10 = .ok (.astore_n 3, 1) := by decide +kernel
theorem dX9_struckCues_11 : decode cX9_struckCues 11 = .ok (.aload_n 3, 1) := by decide +kernel
theorem dX9_struckCues_12 : decode cX9_struckCues 12 = .ok (.arraylength, 1) := by decide +kernel
theorem dX9_struckCues_13 : decode cX9_struckCues 13 = .ok (.istore 4, 2) := by decide +kernel
theorem dX9_struckCues_15 : decode cX9_struckCues 15 = .ok (.iconst 0, 1) := by decide +kernel
theorem dX9_struckCues_16 : decode cX9_struckCues 16 = .ok (.istore 5, 2) := by decide +kernel
theorem dX9_struckCues_18 : decode cX9_struckCues 18 = .ok (.iload 5, 2) := by decide +kernel
theorem dX9_struckCues_20 : decode cX9_struckCues 20 = .ok (.iload 4, 2) := by decide +kernel
theorem dX9_struckCues_22 : decode cX9_struckCues 22 = .ok (.if_icmp .ge 39, 3) := by decide +kernel
theorem dX9_struckCues_25 : decode cX9_struckCues 25 = .ok (.aload_n 3, 1) := by decide +kernel
theorem dX9_struckCues_26 : decode cX9_struckCues 26 = .ok (.iload 5, 2) := by decide +kernel
theorem dX9_struckCues_28 : decode cX9_struckCues 28 = .ok (.aaload, 1) := by decide +kernel
theorem dX9_struckCues_29 : decode cX9_struckCues 29 = .ok (.astore 6, 2) := by decide +kernel
theorem dX9_struckCues_31 : decode cX9_struckCues 31 = .ok (.aload 6, 2) := by decide +kernel
theorem dX9_struckCues_33 : decode cX9_struckCues 33 = .ok (.ifnull 22, 3) := by decide +kernel
theorem dX9_struckCues_36 : decode cX9_struckCues 36 = .ok (.aload 6, 2) := by decide +kernel
theorem dX9_struckCues_38 : decode cX9_struckCues 38 = .ok (.getfield 188, 3) := by decide +kernel
theorem dX9_struckCues_41 : decode cX9_struckCues 41 = .ok (.iconst 1, 1) := by decide +kernel
theorem dX9_struckCues_42 : decode cX9_struckCues 42 = .ok (.if_icmp .ne 13, 3) := by decide +kernel
theorem dX9_struckCues_45 : decode cX9_struckCues 45 = .ok (.lload_n 1, 1) := by decide +kernel
theorem dX9_struckCues_46 : decode cX9_struckCues 46 = .ok (.lconst 1, 1) := by decide +kernel
theorem dX9_struckCues_47 : decode cX9_struckCues 47 = .ok (.aload 6, 2) := by decide +kernel
theorem dX9_struckCues_49 : decode cX9_struckCues 49 = .ok (.getfield 180, 3) := by decide +kernel
theorem dX9_struckCues_52 : decode cX9_struckCues 52 = .ok (.lshl, 1) := by decide +kernel
theorem dX9_struckCues_53 : decode cX9_struckCues 53 = .ok (.lor, 1) := by decide +kernel
theorem dX9_struckCues_54 : decode cX9_struckCues 54 = .ok (.lstore_n 1, 1) := by decide +kernel
theorem dX9_struckCues_55 : decode cX9_struckCues 55 = .ok (.iinc 5 1, 3) := by decide +kernel
theorem dX9_struckCues_58 : decode cX9_struckCues 58 = .ok (.goto (-40), 3) := by decide +kernel
theorem dX9_struckCues_61 : decode cX9_struckCues 61 = .ok (.lload_n 1, 1) := by decide +kernel
theorem dX9_struckCues_62 : decode cX9_struckCues 62 = .ok (.lreturn, 1) := by decide +kernel
set_option maxRecDepth 20000 in
theorem ggX9_queueUp_X9_queueByTick : GoodIn wsX9_queueUp wsX9_queueByTick := goodIn_r _ [17, 1, 18, 10, 19, 20, 21, 22, 23, 24, 25, 26, 27, 28, 29, 30, 31, 32, 33, 34, 35, 36, 37, 38, 39, 40, 41, 42] (by decide +kernel) (by decide +kernel)
set_option maxRecDepth 20000 in
theorem gX9_queueUp_X9_queueByTick : GoodIn wsX9_queueUp (wsV RX9 339 RX9 yX9_queueByTick wsX9_queueByTick) := goodIn_app (goodIn_of _ (by decide +kernel)) ggX9_queueUp_X9_queueByTick
theorem dX9_queueUp_0 : decode cX9_queueUp 0 = .ok (.aload_n 0, 1) := by decide +kernel
theorem dX9_queueUp_1 : decode cX9_queueUp 1 = .ok (.iconst 0, 1) := by decide +kernel
theorem dX9_queueUp_2 : decode cX9_queueUp 2 = .ok (.putfield 76, 3) := by decide +kernel
theorem dX9_queueUp_5 : decode cX9_queueUp 5 = .ok (.aload_n 0, 1) := by decide +kernel
theorem dX9_queueUp_6 : decode cX9_queueUp 6 = .ok (.getfield 44, 3) := by decide +kernel
theorem dX9_queueUp_9 : decode cX9_queueUp 9 = .ok (.astore_n 1, 1) := by decide +kernel
theorem dX9_queueUp_10 : decode cX9_queueUp 10 = .ok (.aload_n 1, 1) := by decide +kernel
theorem dX9_queueUp_11 : decode cX9_queueUp 11 = .ok (.arraylength, 1) := by decide +kernel
theorem dX9_queueUp_12 : decode cX9_queueUp 12 = .ok (.istore_n 2, 1) := by decide +kernel
theorem dX9_queueUp_13 : decode cX9_queueUp 13 = .ok (.iconst 0, 1) := by decide +kernel
theorem dX9_queueUp_14 : decode cX9_queueUp 14 = .ok (.istore_n 3, 1) := by decide +kernel
theorem dX9_queueUp_15 : decode cX9_queueUp 15 = .ok (.iload_n 3, 1) := by decide +kernel
theorem dX9_queueUp_16 : decode cX9_queueUp 16 = .ok (.iload_n 2, 1) := by decide +kernel
theorem dX9_queueUp_17 : decode cX9_queueUp 17 = .ok (.if_icmp .ge 109, 3) := by decide +kernel
theorem dX9_queueUp_20 : decode cX9_queueUp 20 = .ok (.aload_n 1, 1) := by decide +kernel
theorem dX9_queueUp_21 : decode cX9_queueUp 21 = .ok (.iload_n 3, 1) := by decide +kernel
theorem dX9_queueUp_22 : decode cX9_queueUp 22 = .ok (.aaload, 1) := by decide +kernel
theorem dX9_queueUp_23 : decode cX9_queueUp 23 = .ok (.astore 4, 2) := by decide +kernel
theorem dX9_queueUp_25 : decode cX9_queueUp 25 = .ok (.aload 4, 2) := by decide +kernel
theorem dX9_queueUp_27 : decode cX9_queueUp 27 = .ok (.ifnull 93, 3) := by decide +kernel
theorem dX9_queueUp_30 : decode cX9_queueUp 30 = .ok (.aload 4, 2) := by decide +kernel
theorem dX9_queueUp_32 : decode cX9_queueUp 32 = .ok (.aload 4, 2) := by decide +kernel
theorem dX9_queueUp_34 : decode cX9_queueUp 34 = .ok (.getfield 333, 3) := by decide +kernel
theorem dX9_queueUp_37 : decode cX9_queueUp 37 = .ok (.aload_n 0, 1) := by decide +kernel
theorem dX9_queueUp_38 : decode cX9_queueUp 38 = .ok (.getfield 51, 3) := by decide +kernel
theorem dX9_queueUp_41 : decode cX9_queueUp 41 = .ok (.getfield 336, 3) := by decide +kernel
theorem dX9_queueUp_44 : decode cX9_queueUp 44 = .ok (.aload 4, 2) := by decide +kernel
theorem dX9_queueUp_46 : decode cX9_queueUp 46 = .ok (.getfield 333, 3) := by decide +kernel
theorem dX9_queueUp_49 : decode cX9_queueUp 49 = .ok (.iaload, 1) := by decide +kernel
theorem dX9_queueUp_50 : decode cX9_queueUp 50 = .ok (.isub, 1) := by decide +kernel
theorem dX9_queueUp_51 : decode cX9_queueUp 51 = .ok (.aload_n 0, 1) := by decide +kernel
theorem dX9_queueUp_52 : decode cX9_queueUp 52 = .ok (.getfield 79, 3) := by decide +kernel
theorem dX9_queueUp_55 : decode cX9_queueUp 55 = .ok (.imul, 1) := by decide +kernel
theorem dX9_queueUp_56 : decode cX9_queueUp 56 = .ok (.putfield 191, 3) := by decide +kernel
theorem dX9_queueUp_59 : decode cX9_queueUp 59 = .ok (.aload 4, 2) := by decide +kernel
theorem dX9_queueUp_61 : decode cX9_queueUp 61 = .ok (.aload 4, 2) := by decide +kernel
theorem dX9_queueUp_63 : decode cX9_queueUp 63 = .ok (.getfield 191, 3) := by decide +kernel
theorem dX9_queueUp_66 : decode cX9_queueUp 66 = .ok (.aload 4, 2) := by decide +kernel
theorem dX9_queueUp_68 : decode cX9_queueUp 68 = .ok (.getfield 210, 3) := by decide +kernel
theorem dX9_queueUp_71 : decode cX9_queueUp 71 = .ok (.getfield 119, 3) := by decide +kernel
theorem dX9_queueUp_74 : decode cX9_queueUp 74 = .ok (.isub, 1) := by decide +kernel
theorem dX9_queueUp_75 : decode cX9_queueUp 75 = .ok (.putfield 194, 3) := by decide +kernel
theorem dX9_queueUp_78 : decode cX9_queueUp 78 = .ok (.aload 4, 2) := by decide +kernel
theorem dX9_queueUp_80 : decode cX9_queueUp 80 = .ok (.iconst (-1), 1) := by decide +kernel
theorem dX9_queueUp_81 : decode cX9_queueUp 81 = .ok (.putfield 270, 3) := by decide +kernel
theorem dX9_queueUp_84 : decode cX9_queueUp 84 = .ok (.aload 4, 2) := by decide +kernel
theorem dX9_queueUp_86 : decode cX9_queueUp 86 = .ok (.getfield 188, 3) := by decide +kernel
theorem dX9_queueUp_89 : decode cX9_queueUp 89 = .ok (.ifCond .ne 17, 3) := by decide +kernel
theorem dX9_queueUp_92 : decode cX9_queueUp 92 = .ok (.aload 4, 2) := by decide +kernel
theorem dX9_queueUp_94 : decode cX9_queueUp 94 = .ok (.getfield 194, 3) := by decide +kernel
theorem dX9_queueUp_97 : decode cX9_queueUp 97 = .ok (.ifCond .ge 9, 3) := by decide +kernel
theorem dX9_queueUp_100 : decode cX9_queueUp 100 = .ok (.aload 4, 2) := by decide +kernel
theorem dX9_queueUp_102 : decode cX9_queueUp 102 = .ok (.iconst 2, 1) := by decide +kernel
theorem dX9_queueUp_103 : decode cX9_queueUp 103 = .ok (.putfield 188, 3) := by decide +kernel
theorem dX9_queueUp_106 : decode cX9_queueUp 106 = .ok (.aload 4, 2) := by decide +kernel
theorem dX9_queueUp_108 : decode cX9_queueUp 108 = .ok (.getfield 188, 3) := by decide +kernel
theorem dX9_queueUp_111 : decode cX9_queueUp 111 = .ok (.ifCond .ne 9, 3) := by decide +kernel
theorem dX9_queueUp_114 : decode cX9_queueUp 114 = .ok (.aload_n 0, 1) := by decide +kernel
theorem dX9_queueUp_115 : decode cX9_queueUp 115 = .ok (.aload 4, 2) := by decide +kernel
theorem dX9_queueUp_117 : decode cX9_queueUp 117 = .ok (.invokevirtual 339, 3) := by decide +kernel
theorem dX9_queueUp_120 : decode cX9_queueUp 120 = .ok (.iinc 3 1, 3) := by decide +kernel
theorem dX9_queueUp_123 : decode cX9_queueUp 123 = .ok (.goto (-108), 3) := by decide +kernel
theorem dX9_queueUp_126 : decode cX9_queueUp 126 = .ok (.return_, 1) := by decide +kernel
theorem dX9_queueByTick_0 : decode cX9_queueByTick 0 = .ok (.aload_n 0, 1) := by decide +kernel
theorem dX9_queueByTick_1 : decode cX9_queueByTick 1 = .ok (.getfield 76, 3) := by decide +kernel
theorem dX9_queueByTick_4 : decode cX9_queueByTick 4 = .ok (.bipush 40, 2) := by decide +kernel
theorem dX9_queueByTick_6 : decode cX9_queueByTick 6 = .ok (.if_icmp .lt 4, 3) := by decide +kernel
theorem dX9_queueByTick_9 : decode cX9_queueByTick 9 = .ok (.return_, 1) := by decide +kernel
theorem dX9_queueByTick_10 : decode cX9_queueByTick 10 = .ok (.aload_n 0, 1) := by decide +kernel
theorem dX9_queueByTick_11 : decode cX9_queueByTick 11 = .ok (.getfield 76, 3) := by decide +kernel
theorem dX9_queueByTick_14 : decode cX9_queueByTick 14 = .ok (.istore_n 2, 1) := by decide +kernel
theorem dX9_queueByTick_15 : decode cX9_queueByTick 15 = .ok (.iload_n 2, 1) := by decide +kernel
theorem dX9_queueByTick_16 : decode cX9_queueByTick 16 = .ok (.ifCond .le 41, 3) := by decide +kernel
theorem dX9_queueByTick_19 : decode cX9_queueByTick 19 = .ok (.aload_n 0, 1) := by decide +kernel
theorem dX9_queueByTick_20 : decode cX9_queueByTick 20 = .ok (.getfield 62, 3) := by decide +kernel
theorem dX9_queueByTick_23 : decode cX9_queueByTick 23 = .ok (.iload_n 2, 1) := by decide +kernel
theorem dX9_queueByTick_24 : decode cX9_queueByTick 24 = .ok (.iconst 1, 1) := by decide +kernel
theorem dX9_queueByTick_25 : decode cX9_queueByTick 25 = .ok (.isub, 1) := by decide +kernel
theorem dX9_queueByTick_26 : decode cX9_queueByTick 26 = .ok (.aaload, 1) := by decide +kernel
theorem dX9_queueByTick_27 : decode cX9_queueByTick 27 = .ok (.getfield 194, 3) := by decide +kernel
theorem dX9_queueByTick_30 : decode cX9_queueByTick 30 = .ok (.aload_n 1, 1) := by decide +kernel
theorem dX9_queueByTick_31 : decode cX9_queueByTick 31 = .ok (.getfield 194, 3) := by decide +kernel
theorem dX9_queueByTick_34 : decode cX9_queueByTick 34 = .ok (.if_icmp .le 23, 3) := by decide +kernel
theorem dX9_queueByTick_37 : decode cX9_queueByTick 37 = .ok (.aload_n 0, 1) := by decide +kernel
theorem dX9_queueByTick_38 : decode cX9_queueByTick 38 = .ok (.getfield 62, 3) := by decide +kernel
theorem dX9_queueByTick_41 : decode cX9_queueByTick 41 = .ok (.iload_n 2, 1) := by decide +kernel
theorem dX9_queueByTick_42 : decode cX9_queueByTick 42 = .ok (.aload_n 0, 1) := by decide +kernel
theorem dX9_queueByTick_43 : decode cX9_queueByTick 43 = .ok (.getfield 62, 3) := by decide +kernel
theorem dX9_queueByTick_46 : decode cX9_queueByTick 46 = .ok (.iload_n 2, 1) := by decide +kernel
theorem dX9_queueByTick_47 : decode cX9_queueByTick 47 = .ok (.iconst 1, 1) := by decide +kernel
theorem dX9_queueByTick_48 : decode cX9_queueByTick 48 = .ok (.isub, 1) := by decide +kernel
theorem dX9_queueByTick_49 : decode cX9_queueByTick 49 = .ok (.aaload, 1) := by decide +kernel
theorem dX9_queueByTick_50 : decode cX9_queueByTick 50 = .ok (.aastore, 1) := by decide +kernel
theorem dX9_queueByTick_51 : decode cX9_queueByTick 51 = .ok (.iinc 2 (-1), 3) := by decide +kernel
theorem dX9_queueByTick_54 : decode cX9_queueByTick 54 = .ok (.goto (-39), 3) := by decide +kernel
theorem dX9_queueByTick_57 : decode cX9_queueByTick 57 = .ok (.aload_n 0, 1) := by decide +kernel
theorem dX9_queueByTick_58 : decode cX9_queueByTick 58 = .ok (.getfield 62, 3) := by decide +kernel
theorem dX9_queueByTick_61 : decode cX9_queueByTick 61 = .ok (.iload_n 2, 1) := by decide +kernel
theorem dX9_queueByTick_62 : decode cX9_queueByTick 62 = .ok (.aload_n 1, 1) := by decide +kernel
theorem dX9_queueByTick_63 : decode cX9_queueByTick 63 = .ok (.aastore, 1) := by decide +kernel
theorem dX9_queueByTick_64 : decode cX9_queueByTick 64 = .ok (.aload_n 0, 1) := by decide +kernel
theorem dX9_queueByTick_65 : decode cX9_queueByTick 65 = .ok (.dup, 1) := by decide +kernel
theorem dX9_queueByTick_66 : decode cX9_queueByTick 66 = .ok (.getfield 76, 3) := by decide +kernel
theorem dX9_queueByTick_69 : decode cX9_queueByTick 69 = .ok (.iconst 1, 1) := by decide +kernel
theorem dX9_queueByTick_70 : decode cX9_queueByTick 70 = .ok (.iadd, 1) := by decide +kernel
theorem dX9_queueByTick_71 : decode cX9_queueByTick 71 = .ok (.putfield 76, 3) := by decide +kernel
theorem dX9_queueByTick_74 : decode cX9_queueByTick 74 = .ok (.return_, 1) := by decide +kernel
set_option maxRecDepth 20000 in
theorem ggX9_giveChannels_X1_clear : GoodIn wsX9_giveChannels wsX1_clear := goodIn_r _ [12, 13, 14, 15, 16, 17, 18, 53, 54, 55, 56] (by decide +kernel) (by decide +kernel)
set_option maxRecDepth 20000 in
theorem gX9_giveChannels_X1_clear : GoodIn wsX9_giveChannels (wsV RX9 343 RX1 yX1_clear wsX1_clear) := goodIn_app (goodIn_of _ (by decide +kernel)) ggX9_giveChannels_X1_clear
set_option maxRecDepth 20000 in
theorem ggX9_giveChannels_X1_give : GoodIn wsX9_giveChannels wsX1_give := goodIn_r _ [22, 13, 14, 23, 24, 25, 11, 26, 27, 28, 53, 54, 55, 56] (by decide +kernel) (by decide +kernel)
set_option maxRecDepth 20000 in
theorem gX9_giveChannels_X1_give : GoodIn wsX9_giveChannels (wsV RX9 346 RX1 yX1_give wsX1_give) := goodIn_app (goodIn_of _ (by decide +kernel)) ggX9_giveChannels_X1_give
theorem dX9_giveChannels_0 : decode cX9_giveChannels 0 = .ok (.aload_n 0, 1) := by decide +kernel
theorem dX9_giveChannels_1 : decode cX9_giveChannels 1 = .ok (.getfield 58, 3) := by decide +kernel
theorem dX9_giveChannels_4 : decode cX9_giveChannels 4 = .ok (.invokevirtual 343, 3) := by decide +kernel
theorem dX9_giveChannels_7 : decode cX9_giveChannels 7 = .ok (.iconst 0, 1) := by decide +kernel
theorem dX9_giveChannels_8 : decode cX9_giveChannels 8 = .ok (.istore_n 1, 1) := by decide +kernel
theorem dX9_giveChannels_9 : decode cX9_giveChannels 9 = .ok (.iconst 0, 1) := by decide +kernel
theorem dX9_giveChannels_10 : decode cX9_giveChannels 10 = .ok (.istore_n 2, 1) := by decide +kernel
theorem dX9_giveChannels_11 : decode cX9_giveChannels 11 = .ok (.iload_n 2, 1) := by decide +kernel
theorem dX9_giveChannels_12 : decode cX9_giveChannels 12 = .ok (.aload_n 0, 1) := by decide +kernel
theorem dX9_giveChannels_13 : decode cX9_giveChannels 13 = .ok (.getfield 76, 3) := by decide +kernel
theorem dX9_giveChannels_16 : decode cX9_giveChannels 16 = .ok (.if_icmp .ge 61, 3) := by decide +kernel
theorem dX9_giveChannels_19 : decode cX9_giveChannels 19 = .ok (.aload_n 0, 1) := by decide +kernel
theorem dX9_giveChannels_20 : decode cX9_giveChannels 20 = .ok (.getfield 62, 3) := by decide +kernel
theorem dX9_giveChannels_23 : decode cX9_giveChannels 23 = .ok (.iload_n 2, 1) := by decide +kernel
theorem dX9_giveChannels_24 : decode cX9_giveChannels 24 = .ok (.aaload, 1) := by decide +kernel
theorem dX9_giveChannels_25 : decode cX9_giveChannels 25 = .ok (.astore_n 3, 1) := by decide +kernel
theorem dX9_giveChannels_26 : decode cX9_giveChannels 26 = .ok (.aload_n 3, 1) := by decide +kernel
theorem dX9_giveChannels_27 : decode cX9_giveChannels 27 = .ok (.aload_n 0, 1) := by decide +kernel
theorem dX9_giveChannels_28 : decode cX9_giveChannels 28 = .ok (.getfield 58, 3) := by decide +kernel
theorem dX9_giveChannels_31 : decode cX9_giveChannels 31 = .ok (.aload_n 3, 1) := by decide +kernel
theorem dX9_giveChannels_32 : decode cX9_giveChannels 32 = .ok (.getfield 180, 3) := by decide +kernel
theorem dX9_giveChannels_35 : decode cX9_giveChannels 35 = .ok (.aload_n 3, 1) := by decide +kernel
theorem dX9_giveChannels_36 : decode cX9_giveChannels 36 = .ok (.getfield 194, 3) := by decide +kernel
theorem dX9_giveChannels_39 : decode cX9_giveChannels 39 = .ok (.invokevirtual 346, 3) := by decide +kernel
theorem dX9_giveChannels_42 : decode cX9_giveChannels 42 = .ok (.putfield 270, 3) := by decide +kernel
theorem dX9_giveChannels_45 : decode cX9_giveChannels 45 = .ok (.aload_n 3, 1) := by decide +kernel
theorem dX9_giveChannels_46 : decode cX9_giveChannels 46 = .ok (.getfield 270, 3) := by decide +kernel
theorem dX9_giveChannels_49 : decode cX9_giveChannels 49 = .ok (.iconst (-1), 1) := by decide +kernel
theorem dX9_giveChannels_50 : decode cX9_giveChannels 50 = .ok (.if_icmp .ne 11, 3) := by decide +kernel
theorem dX9_giveChannels_53 : decode cX9_giveChannels 53 = .ok (.aload_n 3, 1) := by decide +kernel
theorem dX9_giveChannels_54 : decode cX9_giveChannels 54 = .ok (.iconst 3, 1) := by decide +kernel
theorem dX9_giveChannels_55 : decode cX9_giveChannels 55 = .ok (.putfield 188, 3) := by decide +kernel
theorem dX9_giveChannels_58 : decode cX9_giveChannels 58 = .ok (.goto 13, 3) := by decide +kernel
theorem dX9_giveChannels_61 : decode cX9_giveChannels 61 = .ok (.aload_n 0, 1) := by decide +kernel
theorem dX9_giveChannels_62 : decode cX9_giveChannels 62 = .ok (.getfield 62, 3) := by decide +kernel
theorem dX9_giveChannels_65 : decode cX9_giveChannels 65 = .ok (.iload_n 1, 1) := by decide +kernel
theorem dX9_giveChannels_66 : decode cX9_giveChannels 66 = .ok (.aload_n 3, 1) := by decide +kernel
theorem dX9_giveChannels_67 : decode cX9_giveChannels 67 = .ok (.aastore, 1) := by decide +kernel
theorem dX9_giveChannels_68 : decode cX9_giveChannels 68 = .ok (.iinc 1 1, 3) := by decide +kernel
theorem dX9_giveChannels_71 : decode cX9_giveChannels 71 = .ok (.iinc 2 1, 3) := by decide +kernel
theorem dX9_giveChannels_74 : decode cX9_giveChannels 74 = .ok (.goto (-63), 3) := by decide +kernel
theorem dX9_giveChannels_77 : decode cX9_giveChannels 77 = .ok (.aload_n 0, 1) := by decide +kernel
theorem dX9_giveChannels_78 : decode cX9_giveChannels 78 = .ok (.iload_n 1, 1) := by decide +kernel
theorem dX9_giveChannels_79 : decode cX9_giveChannels 79 = .ok (.putfield 76, 3) := by decide +kernel
theorem dX9_giveChannels_82 : decode cX9_giveChannels 82 = .ok (.return_, 1) := by decide +kernel
set_option maxRecDepth 20000 in
theorem ggX9_priceOf_X4_valueOf : GoodIn wsX9_priceOf wsX4_valueOf := goodIn_r _ [16, 17, 42, 43] (by decide +kernel) (by decide +kernel)
set_option maxRecDepth 20000 in
theorem gX9_priceOf_X4_valueOf : GoodIn wsX9_priceOf (wsV RX9 349 RX4 yX4_valueOf wsX4_valueOf) := goodIn_app (goodIn_of _ (by decide +kernel)) ggX9_priceOf_X4_valueOf
theorem dX9_priceOf_0 : decode cX9_priceOf 0 = .ok (.iconst 0, 1) := by decide +kernel
theorem dX9_priceOf_1 : decode cX9_priceOf 1 = .ok (.bipush 9, 2) := by decide +kernel
theorem dX9_priceOf_3 : decode cX9_priceOf 3 = .ok (.aload_n 1, 1) := by decide +kernel
theorem dX9_priceOf_4 : decode cX9_priceOf 4 = .ok (.getfield 194, 3) := by decide +kernel
theorem dX9_priceOf_7 : decode cX9_priceOf 7 = .ok (.bipush 100, 2) := by decide +kernel
theorem dX9_priceOf_9 : decode cX9_priceOf 9 = .ok (.idiv, 1) := by decide +kernel
theorem dX9_priceOf_10 : decode cX9_priceOf 10 = .ok (.invokestatic 330, 3) := by decide +kernel
theorem dX9_priceOf_13 : decode cX9_priceOf 13 = .ok (.invokestatic 327, 3) := by decide +kernel
theorem dX9_priceOf_16 : decode cX9_priceOf 16 = .ok (.istore_n 2, 1) := by decide +kernel
theorem dX9_priceOf_17 : decode cX9_priceOf 17 = .ok (.aload_n 0, 1) := by decide +kernel
theorem dX9_priceOf_18 : decode cX9_priceOf 18 = .ok (.getfield 10, 3) := by decide +kernel
theorem dX9_priceOf_21 : decode cX9_priceOf 21 = .ok (.aload_n 1, 1) := by decide +kernel
theorem dX9_priceOf_22 : decode cX9_priceOf 22 = .ok (.getfield 246, 3) := by decide +kernel
theorem dX9_priceOf_25 : decode cX9_priceOf 25 = .ok (.invokevirtual 349, 3) := by decide +kernel
theorem dX9_priceOf_28 : decode cX9_priceOf 28 = .ok (.lconst 1, 1) := by decide +kernel
theorem dX9_priceOf_29 : decode cX9_priceOf 29 = .ok (.ladd, 1) := by decide +kernel
theorem dX9_priceOf_30 : decode cX9_priceOf 30 = .ok (.aload_n 0, 1) := by decide +kernel
theorem dX9_priceOf_31 : decode cX9_priceOf 31 = .ok (.getfield 65, 3) := by decide +kernel
theorem dX9_priceOf_34 : decode cX9_priceOf 34 = .ok (.iload_n 2, 1) := by decide +kernel
theorem dX9_priceOf_35 : decode cX9_priceOf 35 = .ok (.iaload, 1) := by decide +kernel
theorem dX9_priceOf_36 : decode cX9_priceOf 36 = .ok (.i2l, 1) := by decide +kernel
theorem dX9_priceOf_37 : decode cX9_priceOf 37 = .ok (.lmul, 1) := by decide +kernel
theorem dX9_priceOf_38 : decode cX9_priceOf 38 = .ok (.lreturn, 1) := by decide +kernel
theorem dX9_refusedOver_0 : decode cX9_refusedOver 0 = .ok (.lload_n 0, 1) := by decide +kernel
theorem dX9_refusedOver_1 : decode cX9_refusedOver 1 = .ok (.ldc2_w 353, 3) := by decide +kernel
theorem dX9_refusedOver_4 : decode cX9_refusedOver 4 = .ok (.lcmp, 1) := by decide +kernel
theorem dX9_refusedOver_5 : decode cX9_refusedOver 5 = .ok (.ifCond .le 8, 3) := by decide +kernel
theorem dX9_refusedOver_8 : decode cX9_refusedOver 8 = .ok (.bipush (-2), 2) := by decide +kernel
theorem dX9_refusedOver_10 : decode cX9_refusedOver 10 = .ok (.goto 5, 3) := by decide +kernel
theorem dX9_refusedOver_13 : decode cX9_refusedOver 13 = .ok (.lload_n 0, 1) := by decide +kernel
theorem dX9_refusedOver_14 : decode cX9_refusedOver 14 = .ok (.l2i, 1) := by decide +kernel
theorem dX9_refusedOver_15 : decode cX9_refusedOver 15 = .ok (.ireturn, 1) := by decide +kernel
theorem dJ13_bitCount_95d88_0 : decode cJ13_bitCount_95d88 0 = .ok (.lload_n 0, 1) := by decide +kernel
theorem dJ13_bitCount_95d88_1 : decode cJ13_bitCount_95d88 1 = .ok (.lload_n 0, 1) := by decide +kernel
theorem dJ13_bitCount_95d88_2 : decode cJ13_bitCount_95d88 2 = .ok (.iconst 1, 1) := by decide +kernel
theorem dJ13_bitCount_95d88_3 : decode cJ13_bitCount_95d88 3 = .ok (.lushr, 1) := by decide +kernel
theorem dJ13_bitCount_95d88_4 : decode cJ13_bitCount_95d88 4 = .ok (.ldc2_w 314, 3) := by decide +kernel
theorem dJ13_bitCount_95d88_7 : decode cJ13_bitCount_95d88 7 = .ok (.land, 1) := by decide +kernel
theorem dJ13_bitCount_95d88_8 : decode cJ13_bitCount_95d88 8 = .ok (.lsub, 1) := by decide +kernel
theorem dJ13_bitCount_95d88_9 : decode cJ13_bitCount_95d88 9 = .ok (.lstore_n 0, 1) := by decide +kernel
theorem dJ13_bitCount_95d88_10 : decode cJ13_bitCount_95d88 10 = .ok (.lload_n 0, 1) := by decide +kernel
theorem dJ13_bitCount_95d88_11 : decode cJ13_bitCount_95d88 11 = .ok (.ldc2_w 316, 3) := by decide +kernel
theorem dJ13_bitCount_95d88_14 : decode cJ13_bitCount_95d88 14 = .ok (.land, 1) := by decide +kernel
theorem dJ13_bitCount_95d88_15 : decode cJ13_bitCount_95d88 15 = .ok (.lload_n 0, 1) := by decide +kernel
theorem dJ13_bitCount_95d88_16 : decode cJ13_bitCount_95d88 16 = .ok (.iconst 2, 1) := by decide +kernel
theorem dJ13_bitCount_95d88_17 : decode cJ13_bitCount_95d88 17 = .ok (.lushr, 1) := by decide +kernel
theorem dJ13_bitCount_95d88_18 : decode cJ13_bitCount_95d88 18 = .ok (.ldc2_w 316, 3) := by decide +kernel
theorem dJ13_bitCount_95d88_21 : decode cJ13_bitCount_95d88 21 = .ok (.land, 1) := by decide +kernel
theorem dJ13_bitCount_95d88_22 : decode cJ13_bitCount_95d88 22 = .ok (.ladd, 1) := by decide +kernel
theorem dJ13_bitCount_95d88_23 : decode cJ13_bitCount_95d88 23 = .ok (.lstore_n 0, 1) := by decide +kernel
theorem dJ13_bitCount_95d88_24 : decode cJ13_bitCount_95d88 24 = .ok (.lload_n 0, 1) := by decide +kernel
theorem dJ13_bitCount_95d88_25 : decode cJ13_bitCount_95d88 25 = .ok (.lload_n 0, 1) := by decide +kernel
theorem dJ13_bitCount_95d88_26 : decode cJ13_bitCount_95d88 26 = .ok (.iconst 4, 1) := by decide +kernel
theorem dJ13_bitCount_95d88_27 : decode cJ13_bitCount_95d88 27 = .ok (.lushr, 1) := by decide +kernel
theorem dJ13_bitCount_95d88_28 : decode cJ13_bitCount_95d88 28 = .ok (.ladd, 1) := by decide +kernel
theorem dJ13_bitCount_95d88_29 : decode cJ13_bitCount_95d88 29 = .ok (.ldc2_w 318, 3) := by decide +kernel
theorem dJ13_bitCount_95d88_32 : decode cJ13_bitCount_95d88 32 = .ok (.land, 1) := by decide +kernel
theorem dJ13_bitCount_95d88_33 : decode cJ13_bitCount_95d88 33 = .ok (.lstore_n 0, 1) := by decide +kernel
theorem dJ13_bitCount_95d88_34 : decode cJ13_bitCount_95d88 34 = .ok (.lload_n 0, 1) := by decide +kernel
theorem dJ13_bitCount_95d88_35 : decode cJ13_bitCount_95d88 35 = .ok (.lload_n 0, 1) := by decide +kernel
theorem dJ13_bitCount_95d88_36 : decode cJ13_bitCount_95d88 36 = .ok (.bipush 8, 2) := by decide +kernel
theorem dJ13_bitCount_95d88_38 : decode cJ13_bitCount_95d88 38 = .ok (.lushr, 1) := by decide +kernel
theorem dJ13_bitCount_95d88_39 : decode cJ13_bitCount_95d88 39 = .ok (.ladd, 1) := by decide +kernel
theorem dJ13_bitCount_95d88_40 : decode cJ13_bitCount_95d88 40 = .ok (.lstore_n 0, 1) := by decide +kernel
theorem dJ13_bitCount_95d88_41 : decode cJ13_bitCount_95d88 41 = .ok (.lload_n 0, 1) := by decide +kernel
theorem dJ13_bitCount_95d88_42 : decode cJ13_bitCount_95d88 42 = .ok (.lload_n 0, 1) := by decide +kernel
theorem dJ13_bitCount_95d88_43 : decode cJ13_bitCount_95d88 43 = .ok (.bipush 16, 2) := by decide +kernel
theorem dJ13_bitCount_95d88_45 : decode cJ13_bitCount_95d88 45 = .ok (.lushr, 1) := by decide +kernel
theorem dJ13_bitCount_95d88_46 : decode cJ13_bitCount_95d88 46 = .ok (.ladd, 1) := by decide +kernel
theorem dJ13_bitCount_95d88_47 : decode cJ13_bitCount_95d88 47 = .ok (.lstore_n 0, 1) := by decide +kernel
theorem dJ13_bitCount_95d88_48 : decode cJ13_bitCount_95d88 48 = .ok (.lload_n 0, 1) := by decide +kernel
theorem dJ13_bitCount_95d88_49 : decode cJ13_bitCount_95d88 49 = .ok (.lload_n 0, 1) := by decide +kernel
theorem dJ13_bitCount_95d88_50 : decode cJ13_bitCount_95d88 50 = .ok (.bipush 32, 2) := by decide +kernel
theorem dJ13_bitCount_95d88_52 : decode cJ13_bitCount_95d88 52 = .ok (.lushr, 1) := by decide +kernel
theorem dJ13_bitCount_95d88_53 : decode cJ13_bitCount_95d88 53 = .ok (.ladd, 1) := by decide +kernel
theorem dJ13_bitCount_95d88_54 : decode cJ13_bitCount_95d88 54 = .ok (.lstore_n 0, 1) := by decide +kernel
theorem dJ13_bitCount_95d88_55 : decode cJ13_bitCount_95d88 55 = .ok (.lload_n 0, 1) := by decide +kernel
theorem dJ13_bitCount_95d88_56 : decode cJ13_bitCount_95d88 56 = .ok (.l2i, 1) := by decide +kernel
theorem dJ13_bitCount_95d88_57 : decode cJ13_bitCount_95d88 57 = .ok (.bipush 127, 2) := by decide +kernel
theorem dJ13_bitCount_95d88_59 : decode cJ13_bitCount_95d88 59 = .ok (.iand, 1) := by decide +kernel
theorem dJ13_bitCount_95d88_60 : decode cJ13_bitCount_95d88 60 = .ok (.ireturn, 1) := by decide +kernel
theorem dJ9_floorDiv_7cf53_0 : decode cJ9_floorDiv_7cf53 0 = .ok (.iload_n 0, 1) := by decide +kernel
theorem dJ9_floorDiv_7cf53_1 : decode cJ9_floorDiv_7cf53 1 = .ok (.iload_n 1, 1) := by decide +kernel
theorem dJ9_floorDiv_7cf53_2 : decode cJ9_floorDiv_7cf53 2 = .ok (.idiv, 1) := by decide +kernel
theorem dJ9_floorDiv_7cf53_3 : decode cJ9_floorDiv_7cf53 3 = .ok (.istore_n 2, 1) := by decide +kernel
theorem dJ9_floorDiv_7cf53_4 : decode cJ9_floorDiv_7cf53 4 = .ok (.iload_n 0, 1) := by decide +kernel
theorem dJ9_floorDiv_7cf53_5 : decode cJ9_floorDiv_7cf53 5 = .ok (.iload_n 1, 1) := by decide +kernel
theorem dJ9_floorDiv_7cf53_6 : decode cJ9_floorDiv_7cf53 6 = .ok (.ixor, 1) := by decide +kernel
theorem dJ9_floorDiv_7cf53_7 : decode cJ9_floorDiv_7cf53 7 = .ok (.ifCond .ge 14, 3) := by decide +kernel
theorem dJ9_floorDiv_7cf53_10 : decode cJ9_floorDiv_7cf53 10 = .ok (.iload_n 2, 1) := by decide +kernel
theorem dJ9_floorDiv_7cf53_11 : decode cJ9_floorDiv_7cf53 11 = .ok (.iload_n 1, 1) := by decide +kernel
theorem dJ9_floorDiv_7cf53_12 : decode cJ9_floorDiv_7cf53 12 = .ok (.imul, 1) := by decide +kernel
theorem dJ9_floorDiv_7cf53_13 : decode cJ9_floorDiv_7cf53 13 = .ok (.iload_n 0, 1) := by decide +kernel
theorem dJ9_floorDiv_7cf53_14 : decode cJ9_floorDiv_7cf53 14 = .ok (.if_icmp .eq 7, 3) := by decide +kernel
theorem dJ9_floorDiv_7cf53_17 : decode cJ9_floorDiv_7cf53 17 = .ok (.iload_n 2, 1) := by decide +kernel
theorem dJ9_floorDiv_7cf53_18 : decode cJ9_floorDiv_7cf53 18 = .ok (.iconst 1, 1) := by decide +kernel
theorem dJ9_floorDiv_7cf53_19 : decode cJ9_floorDiv_7cf53 19 = .ok (.isub, 1) := by decide +kernel
theorem dJ9_floorDiv_7cf53_20 : decode cJ9_floorDiv_7cf53 20 = .ok (.ireturn, 1) := by decide +kernel
theorem dJ9_floorDiv_7cf53_21 : decode cJ9_floorDiv_7cf53 21 = .ok (.iload_n 2, 1) := by decide +kernel
theorem dJ9_floorDiv_7cf53_22 : decode cJ9_floorDiv_7cf53 22 = .ok (.ireturn, 1) := by decide +kernel
theorem dJ9_max_7cf53_0 : decode cJ9_max_7cf53 0 = .ok (.iload_n 0, 1) := by decide +kernel
theorem dJ9_max_7cf53_1 : decode cJ9_max_7cf53 1 = .ok (.iload_n 1, 1) := by decide +kernel
theorem dJ9_max_7cf53_2 : decode cJ9_max_7cf53 2 = .ok (.if_icmp .lt 7, 3) := by decide +kernel
theorem dJ9_max_7cf53_5 : decode cJ9_max_7cf53 5 = .ok (.iload_n 0, 1) := by decide +kernel
theorem dJ9_max_7cf53_6 : decode cJ9_max_7cf53 6 = .ok (.goto 4, 3) := by decide +kernel
theorem dJ9_max_7cf53_9 : decode cJ9_max_7cf53 9 = .ok (.iload_n 1, 1) := by decide +kernel
theorem dJ9_max_7cf53_10 : decode cJ9_max_7cf53 10 = .ok (.ireturn, 1) := by decide +kernel
theorem dJ9_min_7cf53_0 : decode cJ9_min_7cf53 0 = .ok (.iload_n 0, 1) := by decide +kernel
theorem dJ9_min_7cf53_1 : decode cJ9_min_7cf53 1 = .ok (.iload_n 1, 1) := by decide +kernel
theorem dJ9_min_7cf53_2 : decode cJ9_min_7cf53 2 = .ok (.if_icmp .gt 7, 3) := by decide +kernel
theorem dJ9_min_7cf53_5 : decode cJ9_min_7cf53 5 = .ok (.iload_n 0, 1) := by decide +kernel
theorem dJ9_min_7cf53_6 : decode cJ9_min_7cf53 6 = .ok (.goto 4, 3) := by decide +kernel
theorem dJ9_min_7cf53_9 : decode cJ9_min_7cf53 9 = .ok (.iload_n 1, 1) := by decide +kernel
theorem dJ9_min_7cf53_10 : decode cJ9_min_7cf53 10 = .ok (.ireturn, 1) := by decide +kernel
theorem dJ7_fill_53178_0 : decode cJ7_fill_53178 0 = .ok (.iconst 0, 1) := by decide +kernel
theorem dJ7_fill_53178_1 : decode cJ7_fill_53178 1 = .ok (.istore_n 2, 1) := by decide +kernel
theorem dJ7_fill_53178_2 : decode cJ7_fill_53178 2 = .ok (.aload_n 0, 1) := by decide +kernel
theorem dJ7_fill_53178_3 : decode cJ7_fill_53178 3 = .ok (.arraylength, 1) := by decide +kernel
theorem dJ7_fill_53178_4 : decode cJ7_fill_53178 4 = .ok (.istore_n 3, 1) := by decide +kernel
theorem dJ7_fill_53178_5 : decode cJ7_fill_53178 5 = .ok (.iload_n 2, 1) := by decide +kernel
theorem dJ7_fill_53178_6 : decode cJ7_fill_53178 6 = .ok (.iload_n 3, 1) := by decide +kernel
theorem dJ7_fill_53178_7 : decode cJ7_fill_53178 7 = .ok (.if_icmp .ge 13, 3) := by decide +kernel
theorem dJ7_fill_53178_10 : decode cJ7_fill_53178 10 = .ok (.aload_n 0, 1) := by decide +kernel
theorem dJ7_fill_53178_11 : decode cJ7_fill_53178 11 = .ok (.iload_n 2, 1) := by decide +kernel
theorem dJ7_fill_53178_12 : decode cJ7_fill_53178 12 = .ok (.iload_n 1, 1) := by decide +kernel
theorem dJ7_fill_53178_13 : decode cJ7_fill_53178 13 = .ok (.iastore, 1) := by decide +kernel
theorem dJ7_fill_53178_14 : decode cJ7_fill_53178 14 = .ok (.iinc 2 1, 3) := by decide +kernel
theorem dJ7_fill_53178_17 : decode cJ7_fill_53178 17 = .ok (.goto (-12), 3) := by decide +kernel
theorem dJ7_fill_53178_20 : decode cJ7_fill_53178 20 = .ok (.return_, 1) := by decide +kernel
theorem dL_at_0 : decode cL_at 0 = .ok (.iload_n 1, 1) := by decide +kernel
theorem dL_at_1 : decode cL_at 1 = .ok (.aload_n 0, 1) := by decide +kernel
theorem dL_at_2 : decode cL_at 2 = .ok (.arraylength, 1) := by decide +kernel
theorem dL_at_3 : decode cL_at 3 = .ok (.if_icmp .ge 9, 3) := by decide +kernel
theorem dL_at_6 : decode cL_at 6 = .ok (.aload_n 0, 1) := by decide +kernel
theorem dL_at_7 : decode cL_at 7 = .ok (.iload_n 1, 1) := by decide +kernel
theorem dL_at_8 : decode cL_at 8 = .ok (.iaload, 1) := by decide +kernel
theorem dL_at_9 : decode cL_at 9 = .ok (.goto 12, 3) := by decide +kernel
theorem dL_at_12 : decode cL_at 12 = .ok (.ldc 7, 2) := by decide +kernel
theorem dL_at_14 : decode cL_at 14 = .ok (.iload_n 1, 1) := by decide +kernel
theorem dL_at_15 : decode cL_at 15 = .ok (.iconst 1, 1) := by decide +kernel
theorem dL_at_16 : decode cL_at 16 = .ok (.iadd, 1) := by decide +kernel
theorem dL_at_17 : decode cL_at 17 = .ok (.imul, 1) := by decide +kernel
theorem dL_at_18 : decode cL_at 18 = .ok (.ldc 8, 2) := by decide +kernel
theorem dL_at_20 : decode cL_at 20 = .ok (.iadd, 1) := by decide +kernel
theorem dL_at_21 : decode cL_at 21 = .ok (.ireturn, 1) := by decide +kernel
theorem dL_low_0 : decode cL_low 0 = .ok (.iload_n 0, 1) := by decide +kernel
theorem dL_low_1 : decode cL_low 1 = .ok (.ldc 9, 2) := by decide +kernel
theorem dL_low_3 : decode cL_low 3 = .ok (.iand, 1) := by decide +kernel
theorem dL_low_4 : decode cL_low 4 = .ok (.iload_n 1, 1) := by decide +kernel
theorem dL_low_5 : decode cL_low 5 = .ok (.irem, 1) := by decide +kernel
theorem dL_low_6 : decode cL_low 6 = .ok (.ireturn, 1) := by decide +kernel
abbrev vwCl : List vw_C := [(RX0, TX0, 4), (RX1, TX1, 4), (RX2, TX2, 9), (RX3, TX3, 3), (RX4, TX4, 2), (RX5, TX5, 5), (RX6, TX6, 7), (RX7, TX7, 2), (RX8, TX8, 2), (RX9, TX9, 15)]
