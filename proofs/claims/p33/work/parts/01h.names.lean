theorem dX9_setShell_56 : decode cX9_setShell 56 = .ok (.iload_n 2, 1) := by decide +kernel
theorem dX9_setShell_57 : decode cX9_setShell 57 = .ok (.iload_n 3, 1) := by decide +kernel
theorem dX9_setShell_58 : decode cX9_setShell 58 = .ok (.iload 4, 2) := by decide +kernel
theorem dX9_setShell_60 : decode cX9_setShell 60 = .ok (.invokevirtual 115, 3) := by decide +kernel
theorem dX9_setShell_63 : decode cX9_setShell 63 = .ok (.aload_n 0, 1) := by decide +kernel
theorem dX9_setShell_64 : decode cX9_setShell 64 = .ok (.iconst 0, 1) := by decide +kernel
theorem dX9_setShell_65 : decode cX9_setShell 65 = .ok (.putfield 82, 3) := by decide +kernel
theorem dX9_setShell_68 : decode cX9_setShell 68 = .ok (.aload_n 0, 1) := by decide +kernel
theorem dX9_setShell_69 : decode cX9_setShell 69 = .ok (.getfield 24, 3) := by decide +kernel
theorem dX9_setShell_72 : decode cX9_setShell 72 = .ok (.iload_n 1, 1) := by decide +kernel
theorem dX9_setShell_73 : decode cX9_setShell 73 = .ok (.aaload, 1) := by decide +kernel
theorem dX9_setShell_74 : decode cX9_setShell 74 = .ok (.getfield 119, 3) := by decide +kernel
theorem dX9_setShell_77 : decode cX9_setShell 77 = .ok (.ireturn, 1) := by decide +kernel
set_option maxRecDepth 20000 in
theorem ggX9_setWind_X9_outside : GoodIn wsX9_setWind wsX9_outside := goodIn_r _ [11] (by decide +kernel) (by decide +kernel)
set_option maxRecDepth 20000 in
theorem gX9_setWind_X9_outside : GoodIn wsX9_setWind (va_wsS RX9 88 yX9_outside wsX9_outside) := goodIn_app (goodIn_of _ (by decide +kernel)) ggX9_setWind_X9_outside
set_option maxRecDepth 20000 in
theorem ggX9_setWind_X9_struckCues : GoodIn wsX9_setWind wsX9_struckCues := goodIn_r _ [15, 16, 17, 18, 19, 20, 21, 10, 22, 6, 23, 24, 25, 26, 27, 28, 29, 30, 31, 32, 33, 34, 35, 36, 37, 38, 39, 40, 41, 42, 3, 4, 43, 44, 45, 46, 47, 48, 49, 50, 51, 52, 53, 54, 55, 56, 57, 58, 59, 60, 61, 62, 5, 63, 64, 65, 66, 67, 68, 69, 70, 71, 72, 73, 74, 75, 76, 77, 78, 79, 80, 81, 82, 83, 84, 85, 86, 87, 88, 89, 90, 91, 92, 93, 94, 95, 96, 97, 98, 99, 100, 101, 102, 103, 104, 105, 106, 107, 108, 109, 110, 111, 112, 113, 114, 115, 116, 117, 118, 119, 120, 121, 122, 123, 124, 125, 126, 127, 128, 129, 130, 131, 132, 133, 134, 135, 143, 144, 145, 146, 147, 148, 149, 150, 151, 152, 153, 154, 155, 156, 157, 160, 161, 162, 163, 164, 165, 166, 167, 168, 169, 170, 171, 172, 173, 174, 175, 176, 177, 158, 159, 178, 179, 180, 181, 182, 183, 184, 185, 186, 187] (by decide +kernel) (by decide +kernel)
set_option maxRecDepth 20000 in
theorem gX9_setWind_X9_struckCues : GoodIn wsX9_setWind (wsV RX9 124 RX9 yX9_struckCues wsX9_struckCues) := goodIn_app (goodIn_of _ (by decide +kernel)) ggX9_setWind_X9_struckCues
set_option maxRecDepth 20000 in
theorem ggX9_setWind_J13_bitCount_95d88 : GoodIn wsX9_setWind wsJ13_bitCount_95d88 := goodIn_r _ [139, 140, 141, 142] (by decide +kernel) (by decide +kernel)
set_option maxRecDepth 20000 in
theorem gX9_setWind_J13_bitCount_95d88 : GoodIn wsX9_setWind (va_wsS RX9 136 yJ13_bitCount_95d88 wsJ13_bitCount_95d88) := goodIn_app (goodIn_of _ (by decide +kernel)) ggX9_setWind_J13_bitCount_95d88
theorem dX9_setWind_0 : decode cX9_setWind 0 = .ok (.iload_n 1, 1) := by decide +kernel
theorem dX9_setWind_1 : decode cX9_setWind 1 = .ok (.iconst 0, 1) := by decide +kernel
theorem dX9_setWind_2 : decode cX9_setWind 2 = .ok (.iconst 3, 1) := by decide +kernel
theorem dX9_setWind_3 : decode cX9_setWind 3 = .ok (.invokestatic 88, 3) := by decide +kernel
theorem dX9_setWind_6 : decode cX9_setWind 6 = .ok (.ifCond .ne 25, 3) := by decide +kernel
theorem dX9_setWind_9 : decode cX9_setWind 9 = .ok (.iload_n 2, 1) := by decide +kernel
theorem dX9_setWind_10 : decode cX9_setWind 10 = .ok (.bipush (-100), 2) := by decide +kernel
theorem dX9_setWind_12 : decode cX9_setWind 12 = .ok (.bipush 100, 2) := by decide +kernel
theorem dX9_setWind_14 : decode cX9_setWind 14 = .ok (.invokestatic 88, 3) := by decide +kernel
theorem dX9_setWind_17 : decode cX9_setWind 17 = .ok (.ifCond .ne 14, 3) := by decide +kernel
theorem dX9_setWind_20 : decode cX9_setWind 20 = .ok (.iload_n 3, 1) := by decide +kernel
theorem dX9_setWind_21 : decode cX9_setWind 21 = .ok (.bipush (-100), 2) := by decide +kernel
theorem dX9_setWind_23 : decode cX9_setWind 23 = .ok (.bipush 100, 2) := by decide +kernel
theorem dX9_setWind_25 : decode cX9_setWind 25 = .ok (.invokestatic 88, 3) := by decide +kernel
theorem dX9_setWind_28 : decode cX9_setWind 28 = .ok (.ifCond .eq 13, 3) := by decide +kernel
theorem dX9_setWind_31 : decode cX9_setWind 31 = .ok (.new 96, 3) := by decide +kernel
theorem dX9_setWind_34 : decode cX9_setWind 34 = .ok (.dup, 1) := by decide +kernel
theorem dX9_setWind_35 : decode cX9_setWind 35 = .ok (.ldc 122, 2) := by decide +kernel
theorem dX9_setWind_37 : decode cX9_setWind 37 = .ok (.invokespecial 100, 3) := by decide +kernel
theorem dX9_setWind_40 : decode cX9_setWind 40 = .ok (.athrow, 1) := by decide +kernel
theorem dX9_setWind_41 : decode cX9_setWind 41 = .ok (.aload_n 0, 1) := by decide +kernel
theorem dX9_setWind_42 : decode cX9_setWind 42 = .ok (.invokevirtual 124, 3) := by decide +kernel
theorem dX9_setWind_45 : decode cX9_setWind 45 = .ok (.lstore 4, 2) := by decide +kernel
theorem dX9_setWind_47 : decode cX9_setWind 47 = .ok (.aload_n 0, 1) := by decide +kernel
theorem dX9_setWind_48 : decode cX9_setWind 48 = .ok (.getfield 31, 3) := by decide +kernel
theorem dX9_setWind_51 : decode cX9_setWind 51 = .ok (.getfield 128, 3) := by decide +kernel
theorem dX9_setWind_54 : decode cX9_setWind 54 = .ok (.iload_n 1, 1) := by decide +kernel
theorem dX9_setWind_55 : decode cX9_setWind 55 = .ok (.iload_n 2, 1) := by decide +kernel
theorem dX9_setWind_56 : decode cX9_setWind 56 = .ok (.iastore, 1) := by decide +kernel
theorem dX9_setWind_57 : decode cX9_setWind 57 = .ok (.aload_n 0, 1) := by decide +kernel
theorem dX9_setWind_58 : decode cX9_setWind 58 = .ok (.getfield 31, 3) := by decide +kernel
theorem dX9_setWind_61 : decode cX9_setWind 61 = .ok (.getfield 131, 3) := by decide +kernel
theorem dX9_setWind_64 : decode cX9_setWind 64 = .ok (.iload_n 1, 1) := by decide +kernel
theorem dX9_setWind_65 : decode cX9_setWind 65 = .ok (.iload_n 3, 1) := by decide +kernel
theorem dX9_setWind_66 : decode cX9_setWind 66 = .ok (.iastore, 1) := by decide +kernel
theorem dX9_setWind_67 : decode cX9_setWind 67 = .ok (.aload_n 0, 1) := by decide +kernel
theorem dX9_setWind_68 : decode cX9_setWind 68 = .ok (.iconst 0, 1) := by decide +kernel
theorem dX9_setWind_69 : decode cX9_setWind 69 = .ok (.putfield 82, 3) := by decide +kernel
theorem dX9_setWind_72 : decode cX9_setWind 72 = .ok (.aload_n 0, 1) := by decide +kernel
theorem dX9_setWind_73 : decode cX9_setWind 73 = .ok (.invokevirtual 124, 3) := by decide +kernel
theorem dX9_setWind_76 : decode cX9_setWind 76 = .ok (.lload 4, 2) := by decide +kernel
theorem dX9_setWind_78 : decode cX9_setWind 78 = .ok (.ldc2_w 134, 3) := by decide +kernel
theorem dX9_setWind_81 : decode cX9_setWind 81 = .ok (.lxor, 1) := by decide +kernel
theorem dX9_setWind_82 : decode cX9_setWind 82 = .ok (.land, 1) := by decide +kernel
theorem dX9_setWind_83 : decode cX9_setWind 83 = .ok (.invokestatic 136, 3) := by decide +kernel
theorem dX9_setWind_86 : decode cX9_setWind 86 = .ok (.ireturn, 1) := by decide +kernel
set_option maxRecDepth 20000 in
theorem ggX9_setPeople_X9_offGround : GoodIn wsX9_setPeople wsX9_offGround := goodIn_r _ [9, 10, 11, 8, 12] (by decide +kernel) (by decide +kernel)
set_option maxRecDepth 20000 in
theorem gX9_setPeople_X9_offGround : GoodIn wsX9_setPeople (va_wsS RX9 92 yX9_offGround wsX9_offGround) := goodIn_app (goodIn_of _ (by decide +kernel)) ggX9_setPeople_X9_offGround
set_option maxRecDepth 20000 in
theorem ggX9_setPeople_X9_zoneOf : GoodIn wsX9_setPeople wsX9_zoneOf := goodIn_r _ [15] (by decide +kernel) (by decide +kernel)
set_option maxRecDepth 20000 in
theorem gX9_setPeople_X9_zoneOf : GoodIn wsX9_setPeople (va_wsS RX9 109 yX9_zoneOf wsX9_zoneOf) := goodIn_app (goodIn_of _ (by decide +kernel)) ggX9_setPeople_X9_zoneOf
theorem dX9_setPeople_0 : decode cX9_setPeople 0 = .ok (.iload_n 1, 1) := by decide +kernel
theorem dX9_setPeople_1 : decode cX9_setPeople 1 = .ok (.iload_n 2, 1) := by decide +kernel
theorem dX9_setPeople_2 : decode cX9_setPeople 2 = .ok (.invokestatic 92, 3) := by decide +kernel
theorem dX9_setPeople_5 : decode cX9_setPeople 5 = .ok (.ifCond .ne 7, 3) := by decide +kernel
theorem dX9_setPeople_8 : decode cX9_setPeople 8 = .ok (.iload_n 3, 1) := by decide +kernel
theorem dX9_setPeople_9 : decode cX9_setPeople 9 = .ok (.ifCond .ge 13, 3) := by decide +kernel
theorem dX9_setPeople_12 : decode cX9_setPeople 12 = .ok (.new 96, 3) := by decide +kernel
theorem dX9_setPeople_15 : decode cX9_setPeople 15 = .ok (.dup, 1) := by decide +kernel
theorem dX9_setPeople_16 : decode cX9_setPeople 16 = .ok (.ldc 142, 2) := by decide +kernel
theorem dX9_setPeople_18 : decode cX9_setPeople 18 = .ok (.invokespecial 100, 3) := by decide +kernel
theorem dX9_setPeople_21 : decode cX9_setPeople 21 = .ok (.athrow, 1) := by decide +kernel
theorem dX9_setPeople_22 : decode cX9_setPeople 22 = .ok (.iload_n 1, 1) := by decide +kernel
theorem dX9_setPeople_23 : decode cX9_setPeople 23 = .ok (.iload_n 2, 1) := by decide +kernel
theorem dX9_setPeople_24 : decode cX9_setPeople 24 = .ok (.invokestatic 109, 3) := by decide +kernel
theorem dX9_setPeople_27 : decode cX9_setPeople 27 = .ok (.istore 4, 2) := by decide +kernel
theorem dX9_setPeople_29 : decode cX9_setPeople 29 = .ok (.aload_n 0, 1) := by decide +kernel
theorem dX9_setPeople_30 : decode cX9_setPeople 30 = .ok (.getfield 10, 3) := by decide +kernel
theorem dX9_setPeople_33 : decode cX9_setPeople 33 = .ok (.getfield 144, 3) := by decide +kernel
theorem dX9_setPeople_36 : decode cX9_setPeople 36 = .ok (.iload 4, 2) := by decide +kernel
theorem dX9_setPeople_38 : decode cX9_setPeople 38 = .ok (.iaload, 1) := by decide +kernel
theorem dX9_setPeople_39 : decode cX9_setPeople 39 = .ok (.istore 5, 2) := by decide +kernel
theorem dX9_setPeople_41 : decode cX9_setPeople 41 = .ok (.aload_n 0, 1) := by decide +kernel
theorem dX9_setPeople_42 : decode cX9_setPeople 42 = .ok (.getfield 10, 3) := by decide +kernel
theorem dX9_setPeople_45 : decode cX9_setPeople 45 = .ok (.getfield 144, 3) := by decide +kernel
theorem dX9_setPeople_48 : decode cX9_setPeople 48 = .ok (.iload 4, 2) := by decide +kernel
theorem dX9_setPeople_50 : decode cX9_setPeople 50 = .ok (.iload_n 3, 1) := by decide +kernel
theorem dX9_setPeople_51 : decode cX9_setPeople 51 = .ok (.iastore, 1) := by decide +kernel
theorem dX9_setPeople_52 : decode cX9_setPeople 52 = .ok (.aload_n 0, 1) := by decide +kernel
theorem dX9_setPeople_53 : decode cX9_setPeople 53 = .ok (.iconst 0, 1) := by decide +kernel
theorem dX9_setPeople_54 : decode cX9_setPeople 54 = .ok (.putfield 82, 3) := by decide +kernel
theorem dX9_setPeople_57 : decode cX9_setPeople 57 = .ok (.iload 5, 2) := by decide +kernel
theorem dX9_setPeople_59 : decode cX9_setPeople 59 = .ok (.ireturn, 1) := by decide +kernel
set_option maxRecDepth 20000 in
theorem ggX9_setValue_X9_offGround : GoodIn wsX9_setValue wsX9_offGround := goodIn_r _ [9, 10, 11, 8, 12] (by decide +kernel) (by decide +kernel)
set_option maxRecDepth 20000 in
theorem gX9_setValue_X9_offGround : GoodIn wsX9_setValue (va_wsS RX9 92 yX9_offGround wsX9_offGround) := goodIn_app (goodIn_of _ (by decide +kernel)) ggX9_setValue_X9_offGround
set_option maxRecDepth 20000 in
theorem ggX9_setValue_X9_outside : GoodIn wsX9_setValue wsX9_outside := goodIn_r _ [12] (by decide +kernel) (by decide +kernel)
set_option maxRecDepth 20000 in
theorem gX9_setValue_X9_outside : GoodIn wsX9_setValue (va_wsS RX9 88 yX9_outside wsX9_outside) := goodIn_app (goodIn_of _ (by decide +kernel)) ggX9_setValue_X9_outside
set_option maxRecDepth 20000 in
theorem ggX9_setValue_X9_zoneOf : GoodIn wsX9_setValue wsX9_zoneOf := goodIn_r _ [15] (by decide +kernel) (by decide +kernel)
set_option maxRecDepth 20000 in
theorem gX9_setValue_X9_zoneOf : GoodIn wsX9_setValue (va_wsS RX9 109 yX9_zoneOf wsX9_zoneOf) := goodIn_app (goodIn_of _ (by decide +kernel)) ggX9_setValue_X9_zoneOf
theorem dX9_setValue_0 : decode cX9_setValue 0 = .ok (.iload_n 1, 1) := by decide +kernel
theorem dX9_setValue_1 : decode cX9_setValue 1 = .ok (.iload_n 2, 1) := by decide +kernel
theorem dX9_setValue_2 : decode cX9_setValue 2 = .ok (.invokestatic 92, 3) := by decide +kernel
theorem dX9_setValue_5 : decode cX9_setValue 5 = .ok (.ifCond .ne 13, 3) := by decide +kernel
theorem dX9_setValue_8 : decode cX9_setValue 8 = .ok (.iload_n 3, 1) := by decide +kernel
theorem dX9_setValue_9 : decode cX9_setValue 9 = .ok (.iconst 0, 1) := by decide +kernel
theorem dX9_setValue_10 : decode cX9_setValue 10 = .ok (.ldc 147, 2) := by decide +kernel
theorem dX9_setValue_12 : decode cX9_setValue 12 = .ok (.invokestatic 88, 3) := by decide +kernel
theorem dX9_setValue_15 : decode cX9_setValue 15 = .ok (.ifCond .eq 13, 3) := by decide +kernel
theorem dX9_setValue_18 : decode cX9_setValue 18 = .ok (.new 96, 3) := by decide +kernel
theorem dX9_setValue_21 : decode cX9_setValue 21 = .ok (.dup, 1) := by decide +kernel
theorem dX9_setValue_22 : decode cX9_setValue 22 = .ok (.ldc 148, 2) := by decide +kernel
theorem dX9_setValue_24 : decode cX9_setValue 24 = .ok (.invokespecial 100, 3) := by decide +kernel
theorem dX9_setValue_27 : decode cX9_setValue 27 = .ok (.athrow, 1) := by decide +kernel
theorem dX9_setValue_28 : decode cX9_setValue 28 = .ok (.iload_n 1, 1) := by decide +kernel
theorem dX9_setValue_29 : decode cX9_setValue 29 = .ok (.iload_n 2, 1) := by decide +kernel
theorem dX9_setValue_30 : decode cX9_setValue 30 = .ok (.invokestatic 109, 3) := by decide +kernel
theorem dX9_setValue_33 : decode cX9_setValue 33 = .ok (.istore 4, 2) := by decide +kernel
theorem dX9_setValue_35 : decode cX9_setValue 35 = .ok (.aload_n 0, 1) := by decide +kernel
theorem dX9_setValue_36 : decode cX9_setValue 36 = .ok (.getfield 10, 3) := by decide +kernel
theorem dX9_setValue_39 : decode cX9_setValue 39 = .ok (.getfield 150, 3) := by decide +kernel
theorem dX9_setValue_42 : decode cX9_setValue 42 = .ok (.iload 4, 2) := by decide +kernel
theorem dX9_setValue_44 : decode cX9_setValue 44 = .ok (.iaload, 1) := by decide +kernel
theorem dX9_setValue_45 : decode cX9_setValue 45 = .ok (.istore 5, 2) := by decide +kernel
theorem dX9_setValue_47 : decode cX9_setValue 47 = .ok (.aload_n 0, 1) := by decide +kernel
theorem dX9_setValue_48 : decode cX9_setValue 48 = .ok (.getfield 10, 3) := by decide +kernel
theorem dX9_setValue_51 : decode cX9_setValue 51 = .ok (.getfield 150, 3) := by decide +kernel
theorem dX9_setValue_54 : decode cX9_setValue 54 = .ok (.iload 4, 2) := by decide +kernel
theorem dX9_setValue_56 : decode cX9_setValue 56 = .ok (.iload_n 3, 1) := by decide +kernel
theorem dX9_setValue_57 : decode cX9_setValue 57 = .ok (.iastore, 1) := by decide +kernel
theorem dX9_setValue_58 : decode cX9_setValue 58 = .ok (.iload 5, 2) := by decide +kernel
theorem dX9_setValue_60 : decode cX9_setValue 60 = .ok (.ireturn, 1) := by decide +kernel
set_option maxRecDepth 20000 in
theorem ggX9_peopled_X4_zonesWithPeople : GoodIn wsX9_peopled wsX4_zonesWithPeople := goodIn_r _ [6, 7, 30, 31] (by decide +kernel) (by decide +kernel)
set_option maxRecDepth 20000 in
theorem gX9_peopled_X4_zonesWithPeople : GoodIn wsX9_peopled (wsV RX9 153 RX4 yX4_zonesWithPeople wsX4_zonesWithPeople) := goodIn_app (goodIn_of _ (by decide +kernel)) ggX9_peopled_X4_zonesWithPeople
set_option maxRecDepth 20000 in
theorem ggX9_peopled_J13_bitCount_95d88 : GoodIn wsX9_peopled wsJ13_bitCount_95d88 := goodIn_r _ [11, 12, 13, 14] (by decide +kernel) (by decide +kernel)
set_option maxRecDepth 20000 in
theorem gX9_peopled_J13_bitCount_95d88 : GoodIn wsX9_peopled (va_wsS RX9 136 yJ13_bitCount_95d88 wsJ13_bitCount_95d88) := goodIn_app (goodIn_of _ (by decide +kernel)) ggX9_peopled_J13_bitCount_95d88
theorem dX9_peopled_0 : decode cX9_peopled 0 = .ok (.aload_n 0, 1) := by decide +kernel
theorem dX9_peopled_1 : decode cX9_peopled 1 = .ok (.getfield 10, 3) := by decide +kernel
theorem dX9_peopled_4 : decode cX9_peopled 4 = .ok (.invokevirtual 153, 3) := by decide +kernel
theorem dX9_peopled_7 : decode cX9_peopled 7 = .ok (.invokestatic 136, 3) := by decide +kernel
theorem dX9_peopled_10 : decode cX9_peopled 10 = .ok (.ireturn, 1) := by decide +kernel
set_option maxRecDepth 20000 in
theorem ggX9_flight_X9_outside : GoodIn wsX9_flight wsX9_outside := goodIn_r _ [8] (by decide +kernel) (by decide +kernel)
set_option maxRecDepth 20000 in
theorem gX9_flight_X9_outside : GoodIn wsX9_flight (va_wsS RX9 88 yX9_outside wsX9_outside) := goodIn_app (goodIn_of _ (by decide +kernel)) ggX9_flight_X9_outside
theorem dX9_flight_0 : decode cX9_flight 0 = .ok (.iload_n 1, 1) := by decide +kernel
theorem dX9_flight_1 : decode cX9_flight 1 = .ok (.iconst 0, 1) := by decide +kernel
theorem dX9_flight_2 : decode cX9_flight 2 = .ok (.iconst 3, 1) := by decide +kernel
theorem dX9_flight_3 : decode cX9_flight 3 = .ok (.invokestatic 88, 3) := by decide +kernel
theorem dX9_flight_6 : decode cX9_flight 6 = .ok (.ifCond .eq 13, 3) := by decide +kernel
theorem dX9_flight_9 : decode cX9_flight 9 = .ok (.new 96, 3) := by decide +kernel
theorem dX9_flight_12 : decode cX9_flight 12 = .ok (.dup, 1) := by decide +kernel
theorem dX9_flight_13 : decode cX9_flight 13 = .ok (.ldc 156, 2) := by decide +kernel
theorem dX9_flight_15 : decode cX9_flight 15 = .ok (.invokespecial 100, 3) := by decide +kernel
theorem dX9_flight_18 : decode cX9_flight 18 = .ok (.athrow, 1) := by decide +kernel
theorem dX9_flight_19 : decode cX9_flight 19 = .ok (.aload_n 0, 1) := by decide +kernel
theorem dX9_flight_20 : decode cX9_flight 20 = .ok (.getfield 24, 3) := by decide +kernel
theorem dX9_flight_23 : decode cX9_flight 23 = .ok (.iload_n 1, 1) := by decide +kernel
theorem dX9_flight_24 : decode cX9_flight 24 = .ok (.aaload, 1) := by decide +kernel
theorem dX9_flight_25 : decode cX9_flight 25 = .ok (.getfield 158, 3) := by decide +kernel
theorem dX9_flight_28 : decode cX9_flight 28 = .ok (.ireturn, 1) := by decide +kernel
set_option maxRecDepth 20000 in
theorem ggX9_inLayer_X9_outside : GoodIn wsX9_inLayer wsX9_outside := goodIn_r _ [8] (by decide +kernel) (by decide +kernel)
set_option maxRecDepth 20000 in
theorem gX9_inLayer_X9_outside : GoodIn wsX9_inLayer (va_wsS RX9 88 yX9_outside wsX9_outside) := goodIn_app (goodIn_of _ (by decide +kernel)) ggX9_inLayer_X9_outside
theorem dX9_inLayer_0 : decode cX9_inLayer 0 = .ok (.iload_n 1, 1) := by decide +kernel
theorem dX9_inLayer_1 : decode cX9_inLayer 1 = .ok (.iconst 0, 1) := by decide +kernel
theorem dX9_inLayer_2 : decode cX9_inLayer 2 = .ok (.iconst 3, 1) := by decide +kernel
theorem dX9_inLayer_3 : decode cX9_inLayer 3 = .ok (.invokestatic 88, 3) := by decide +kernel
theorem dX9_inLayer_6 : decode cX9_inLayer 6 = .ok (.ifCond .ne 12, 3) := by decide +kernel
theorem dX9_inLayer_9 : decode cX9_inLayer 9 = .ok (.iload_n 2, 1) := by decide +kernel
theorem dX9_inLayer_10 : decode cX9_inLayer 10 = .ok (.iconst 0, 1) := by decide +kernel
theorem dX9_inLayer_11 : decode cX9_inLayer 11 = .ok (.iconst 3, 1) := by decide +kernel
theorem dX9_inLayer_12 : decode cX9_inLayer 12 = .ok (.invokestatic 88, 3) := by decide +kernel
theorem dX9_inLayer_15 : decode cX9_inLayer 15 = .ok (.ifCond .eq 13, 3) := by decide +kernel
theorem dX9_inLayer_18 : decode cX9_inLayer 18 = .ok (.new 96, 3) := by decide +kernel
theorem dX9_inLayer_21 : decode cX9_inLayer 21 = .ok (.dup, 1) := by decide +kernel
theorem dX9_inLayer_22 : decode cX9_inLayer 22 = .ok (.ldc 161, 2) := by decide +kernel
theorem dX9_inLayer_24 : decode cX9_inLayer 24 = .ok (.invokespecial 100, 3) := by decide +kernel
theorem dX9_inLayer_27 : decode cX9_inLayer 27 = .ok (.athrow, 1) := by decide +kernel
theorem dX9_inLayer_28 : decode cX9_inLayer 28 = .ok (.aload_n 0, 1) := by decide +kernel
theorem dX9_inLayer_29 : decode cX9_inLayer 29 = .ok (.getfield 24, 3) := by decide +kernel
theorem dX9_inLayer_32 : decode cX9_inLayer 32 = .ok (.iload_n 1, 1) := by decide +kernel
theorem dX9_inLayer_33 : decode cX9_inLayer 33 = .ok (.aaload, 1) := by decide +kernel
theorem dX9_inLayer_34 : decode cX9_inLayer 34 = .ok (.getfield 163, 3) := by decide +kernel
theorem dX9_inLayer_37 : decode cX9_inLayer 37 = .ok (.iload_n 2, 1) := by decide +kernel
theorem dX9_inLayer_38 : decode cX9_inLayer 38 = .ok (.iaload, 1) := by decide +kernel
theorem dX9_inLayer_39 : decode cX9_inLayer 39 = .ok (.ireturn, 1) := by decide +kernel
set_option maxRecDepth 20000 in
theorem ggX9_cue_X9_outside : GoodIn wsX9_cue wsX9_outside := goodIn_r _ [17] (by decide +kernel) (by decide +kernel)
set_option maxRecDepth 20000 in
theorem gX9_cue_X9_outside : GoodIn wsX9_cue (va_wsS RX9 88 yX9_outside wsX9_outside) := goodIn_app (goodIn_of _ (by decide +kernel)) ggX9_cue_X9_outside
set_option maxRecDepth 20000 in
theorem ggX9_cue_X2_init : GoodIn wsX9_cue wsX2_init := goodIn_r _ [20, 21, 22, 23, 24, 25, 26, 27, 28, 29, 30, 31, 32, 48, 49, 50, 51, 52, 53, 54, 55, 56] (by decide +kernel) (by decide +kernel)
set_option maxRecDepth 20000 in
theorem gX9_cue_X2_init : GoodIn wsX9_cue (wsX2_init) := ggX9_cue_X2_init
theorem dX9_cue_0 : decode cX9_cue 0 = .ok (.iload_n 1, 1) := by decide +kernel
theorem dX9_cue_1 : decode cX9_cue 1 = .ok (.iconst 0, 1) := by decide +kernel
theorem dX9_cue_2 : decode cX9_cue 2 = .ok (.bipush 100, 2) := by decide +kernel
theorem dX9_cue_4 : decode cX9_cue 4 = .ok (.invokestatic 88, 3) := by decide +kernel
theorem dX9_cue_7 : decode cX9_cue 7 = .ok (.ifCond .ne 21, 3) := by decide +kernel
theorem dX9_cue_10 : decode cX9_cue 10 = .ok (.iload_n 2, 1) := by decide +kernel
theorem dX9_cue_11 : decode cX9_cue 11 = .ok (.iconst 0, 1) := by decide +kernel
theorem dX9_cue_12 : decode cX9_cue 12 = .ok (.iconst 3, 1) := by decide +kernel
theorem dX9_cue_13 : decode cX9_cue 13 = .ok (.invokestatic 88, 3) := by decide +kernel
theorem dX9_cue_16 : decode cX9_cue 16 = .ok (.ifCond .ne 12, 3) := by decide +kernel
theorem dX9_cue_19 : decode cX9_cue 19 = .ok (.iload_n 3, 1) := by decide +kernel
theorem dX9_cue_20 : decode cX9_cue 20 = .ok (.iconst 0, 1) := by decide +kernel
theorem dX9_cue_21 : decode cX9_cue 21 = .ok (.iconst 5, 1) := by decide +kernel
theorem dX9_cue_22 : decode cX9_cue 22 = .ok (.invokestatic 88, 3) := by decide +kernel
theorem dX9_cue_25 : decode cX9_cue 25 = .ok (.ifCond .eq 13, 3) := by decide +kernel
theorem dX9_cue_28 : decode cX9_cue 28 = .ok (.new 96, 3) := by decide +kernel
theorem dX9_cue_31 : decode cX9_cue 31 = .ok (.dup, 1) := by decide +kernel
theorem dX9_cue_32 : decode cX9_cue 32 = .ok (.ldc 166, 2) := by decide +kernel
theorem dX9_cue_34 : decode cX9_cue 34 = .ok (.invokespecial 100, 3) := by decide +kernel
theorem dX9_cue_37 : decode cX9_cue 37 = .ok (.athrow, 1) := by decide +kernel
theorem dX9_cue_38 : decode cX9_cue 38 = .ok (.aload_n 0, 1) := by decide +kernel
theorem dX9_cue_39 : decode cX9_cue 39 = .ok (.getfield 69, 3) := by decide +kernel
theorem dX9_cue_42 : decode cX9_cue 42 = .ok (.bipush 40, 2) := by decide +kernel
theorem dX9_cue_44 : decode cX9_cue 44 = .ok (.if_icmp .lt 13, 3) := by decide +kernel
theorem dX9_cue_47 : decode cX9_cue 47 = .ok (.new 168, 3) := by decide +kernel
theorem dX9_cue_50 : decode cX9_cue 50 = .ok (.dup, 1) := by decide +kernel
theorem dX9_cue_51 : decode cX9_cue 51 = .ok (.ldc 170, 2) := by decide +kernel
theorem dX9_cue_53 : decode cX9_cue 53 = .ok (.invokespecial 172, 3) := by decide +kernel
theorem dX9_cue_56 : decode cX9_cue 56 = .ok (.athrow, 1) := by decide +kernel
theorem dX9_cue_57 : decode cX9_cue 57 = .ok (.aload_n 0, 1) := by decide +kernel
theorem dX9_cue_58 : decode cX9_cue 58 = .ok (.getfield 69, 3) := by decide +kernel
theorem dX9_cue_61 : decode cX9_cue 61 = .ok (.istore 4, 2) := by decide +kernel
theorem dX9_cue_63 : decode cX9_cue 63 = .ok (.aload_n 0, 1) := by decide +kernel
theorem dX9_cue_64 : decode cX9_cue 64 = .ok (.getfield 44, 3) := by decide +kernel
theorem dX9_cue_67 : decode cX9_cue 67 = .ok (.iload 4, 2) := by decide +kernel
theorem dX9_cue_69 : decode cX9_cue 69 = .ok (.new 42, 3) := by decide +kernel
theorem dX9_cue_72 : decode cX9_cue 72 = .ok (.dup, 1) := by decide +kernel
theorem dX9_cue_73 : decode cX9_cue 73 = .ok (.iload 4, 2) := by decide +kernel
theorem dX9_cue_75 : decode cX9_cue 75 = .ok (.iload_n 1, 1) := by decide +kernel
theorem dX9_cue_76 : decode cX9_cue 76 = .ok (.aload_n 0, 1) := by decide +kernel
theorem dX9_cue_77 : decode cX9_cue 77 = .ok (.getfield 24, 3) := by decide +kernel
theorem dX9_cue_80 : decode cX9_cue 80 = .ok (.iload_n 2, 1) := by decide +kernel
theorem dX9_cue_81 : decode cX9_cue 81 = .ok (.aaload, 1) := by decide +kernel
theorem dX9_cue_82 : decode cX9_cue 82 = .ok (.aload_n 0, 1) := by decide +kernel
theorem dX9_cue_83 : decode cX9_cue 83 = .ok (.getfield 18, 3) := by decide +kernel
theorem dX9_cue_86 : decode cX9_cue 86 = .ok (.iload_n 3, 1) := by decide +kernel
theorem dX9_cue_87 : decode cX9_cue 87 = .ok (.aaload, 1) := by decide +kernel
theorem dX9_cue_88 : decode cX9_cue 88 = .ok (.invokespecial 173, 3) := by decide +kernel
theorem dX9_cue_91 : decode cX9_cue 91 = .ok (.aastore, 1) := by decide +kernel
theorem dX9_cue_92 : decode cX9_cue 92 = .ok (.aload_n 0, 1) := by decide +kernel
theorem dX9_cue_93 : decode cX9_cue 93 = .ok (.dup, 1) := by decide +kernel
theorem dX9_cue_94 : decode cX9_cue 94 = .ok (.getfield 69, 3) := by decide +kernel
theorem dX9_cue_97 : decode cX9_cue 97 = .ok (.iconst 1, 1) := by decide +kernel
theorem dX9_cue_98 : decode cX9_cue 98 = .ok (.iadd, 1) := by decide +kernel
theorem dX9_cue_99 : decode cX9_cue 99 = .ok (.putfield 69, 3) := by decide +kernel
theorem dX9_cue_102 : decode cX9_cue 102 = .ok (.aload_n 0, 1) := by decide +kernel
theorem dX9_cue_103 : decode cX9_cue 103 = .ok (.dup, 1) := by decide +kernel
theorem dX9_cue_104 : decode cX9_cue 104 = .ok (.getfield 73, 3) := by decide +kernel
theorem dX9_cue_107 : decode cX9_cue 107 = .ok (.iconst 1, 1) := by decide +kernel
theorem dX9_cue_108 : decode cX9_cue 108 = .ok (.iadd, 1) := by decide +kernel
theorem dX9_cue_109 : decode cX9_cue 109 = .ok (.putfield 73, 3) := by decide +kernel
theorem dX9_cue_112 : decode cX9_cue 112 = .ok (.aload_n 0, 1) := by decide +kernel
theorem dX9_cue_113 : decode cX9_cue 113 = .ok (.iconst 0, 1) := by decide +kernel
theorem dX9_cue_114 : decode cX9_cue 114 = .ok (.putfield 82, 3) := by decide +kernel
theorem dX9_cue_117 : decode cX9_cue 117 = .ok (.iload 4, 2) := by decide +kernel
theorem dX9_cue_119 : decode cX9_cue 119 = .ok (.ireturn, 1) := by decide +kernel
set_option maxRecDepth 20000 in
theorem ggX9_cut_X9_found : GoodIn wsX9_cut wsX9_found := goodIn_ca (goodIn_r _ [9, 10, 11, 1, 12, 13, 8, 14, 15, 16, 17, 18, 19, 20, 21, 22, 23, 24, 25, 26, 27, 28, 29] (by decide +kernel) (by decide +kernel)) (goodIn_sub (fun _ h => List.mem_cons_of_mem _ (List.mem_append_right _ h)) (by decide +kernel))
set_option maxRecDepth 20000 in
theorem gX9_cut_X9_found : GoodIn wsX9_cut (wsV RX9 176 RX9 yX9_found wsX9_found) := goodIn_app (goodIn_of _ (by decide +kernel)) ggX9_cut_X9_found
theorem dX9_cut_0 : decode cX9_cut 0 = .ok (.aload_n 0, 1) := by decide +kernel
theorem dX9_cut_1 : decode cX9_cut 1 = .ok (.iload_n 1, 1) := by decide +kernel
theorem dX9_cut_2 : decode cX9_cut 2 = .ok (.invokevirtual 176, 3) := by decide +kernel
theorem dX9_cut_5 : decode cX9_cut 5 = .ok (.astore_n 2, 1) := by decide +kernel
theorem dX9_cut_6 : decode cX9_cut 6 = .ok (.aload_n 0, 1) := by decide +kernel
theorem dX9_cut_7 : decode cX9_cut 7 = .ok (.getfield 44, 3) := by decide +kernel
theorem dX9_cut_10 : decode cX9_cut 10 = .ok (.aload_n 2, 1) := by decide +kernel
theorem dX9_cut_11 : decode cX9_cut 11 = .ok (.getfield 180, 3) := by decide +kernel
theorem dX9_cut_14 : decode cX9_cut 14 = .ok (.aconst_null, 1) := by decide +kernel
theorem dX9_cut_15 : decode cX9_cut 15 = .ok (.aastore, 1) := by decide +kernel
theorem dX9_cut_16 : decode cX9_cut 16 = .ok (.aload_n 0, 1) := by decide +kernel
theorem dX9_cut_17 : decode cX9_cut 17 = .ok (.dup, 1) := by decide +kernel
theorem dX9_cut_18 : decode cX9_cut 18 = .ok (.getfield 73, 3) := by decide +kernel
theorem dX9_cut_21 : decode cX9_cut 21 = .ok (.iconst 1, 1) := by decide +kernel
theorem dX9_cut_22 : decode cX9_cut 22 = .ok (.isub, 1) := by decide +kernel
theorem dX9_cut_23 : decode cX9_cut 23 = .ok (.putfield 73, 3) := by decide +kernel
theorem dX9_cut_26 : decode cX9_cut 26 = .ok (.aload_n 0, 1) := by decide +kernel
theorem dX9_cut_27 : decode cX9_cut 27 = .ok (.iconst 0, 1) := by decide +kernel
theorem dX9_cut_28 : decode cX9_cut 28 = .ok (.putfield 82, 3) := by decide +kernel
theorem dX9_cut_31 : decode cX9_cut 31 = .ok (.aload_n 0, 1) := by decide +kernel
theorem dX9_cut_32 : decode cX9_cut 32 = .ok (.getfield 73, 3) := by decide +kernel
theorem dX9_cut_35 : decode cX9_cut 35 = .ok (.ireturn, 1) := by decide +kernel
set_option maxRecDepth 20000 in
theorem ggX9_setTempo_X9_outside : GoodIn wsX9_setTempo wsX9_outside := goodIn_r _ [8] (by decide +kernel) (by decide +kernel)
set_option maxRecDepth 20000 in
theorem gX9_setTempo_X9_outside : GoodIn wsX9_setTempo (va_wsS RX9 88 yX9_outside wsX9_outside) := goodIn_app (goodIn_of _ (by decide +kernel)) ggX9_setTempo_X9_outside
theorem dX9_setTempo_0 : decode cX9_setTempo 0 = .ok (.iload_n 1, 1) := by decide +kernel
theorem dX9_setTempo_1 : decode cX9_setTempo 1 = .ok (.iconst 1, 1) := by decide +kernel
theorem dX9_setTempo_2 : decode cX9_setTempo 2 = .ok (.bipush 100, 2) := by decide +kernel
theorem dX9_setTempo_4 : decode cX9_setTempo 4 = .ok (.invokestatic 88, 3) := by decide +kernel
theorem dX9_setTempo_7 : decode cX9_setTempo 7 = .ok (.ifCond .eq 13, 3) := by decide +kernel
theorem dX9_setTempo_10 : decode cX9_setTempo 10 = .ok (.new 96, 3) := by decide +kernel
theorem dX9_setTempo_13 : decode cX9_setTempo 13 = .ok (.dup, 1) := by decide +kernel
theorem dX9_setTempo_14 : decode cX9_setTempo 14 = .ok (.ldc 183, 2) := by decide +kernel
theorem dX9_setTempo_16 : decode cX9_setTempo 16 = .ok (.invokespecial 100, 3) := by decide +kernel
theorem dX9_setTempo_19 : decode cX9_setTempo 19 = .ok (.athrow, 1) := by decide +kernel
theorem dX9_setTempo_20 : decode cX9_setTempo 20 = .ok (.aload_n 0, 1) := by decide +kernel
theorem dX9_setTempo_21 : decode cX9_setTempo 21 = .ok (.getfield 79, 3) := by decide +kernel
theorem dX9_setTempo_24 : decode cX9_setTempo 24 = .ok (.istore_n 2, 1) := by decide +kernel
theorem dX9_setTempo_25 : decode cX9_setTempo 25 = .ok (.aload_n 0, 1) := by decide +kernel
theorem dX9_setTempo_26 : decode cX9_setTempo 26 = .ok (.iload_n 1, 1) := by decide +kernel
theorem dX9_setTempo_27 : decode cX9_setTempo 27 = .ok (.putfield 79, 3) := by decide +kernel
theorem dX9_setTempo_30 : decode cX9_setTempo 30 = .ok (.aload_n 0, 1) := by decide +kernel
theorem dX9_setTempo_31 : decode cX9_setTempo 31 = .ok (.iconst 0, 1) := by decide +kernel
theorem dX9_setTempo_32 : decode cX9_setTempo 32 = .ok (.putfield 82, 3) := by decide +kernel
theorem dX9_setTempo_35 : decode cX9_setTempo 35 = .ok (.iload_n 2, 1) := by decide +kernel
theorem dX9_setTempo_36 : decode cX9_setTempo 36 = .ok (.ireturn, 1) := by decide +kernel
set_option maxRecDepth 20000 in
theorem ggX9_becomes_X9_foundAndPlanned : GoodIn wsX9_becomes wsX9_foundAndPlanned := goodIn_ca (goodIn_r _ [6, 7, 8, 9, 5, 10, 11, 12, 13, 14, 15, 16, 17, 18, 19, 20, 21, 22, 23, 24, 25, 26, 27, 28, 29, 30, 1, 31, 32, 33, 34, 35, 36, 37, 38, 39, 40, 41, 42, 43, 44, 45, 46, 47, 48, 49, 50, 51, 52, 53, 54, 55, 56, 57, 58, 59, 60, 61, 62, 63, 64, 65, 66, 67, 68, 69, 70, 71, 72, 73, 74, 75, 76, 77, 78, 79, 80, 81, 82, 83, 84, 85, 86, 87, 88, 89, 90, 91, 92, 93, 94, 95, 96, 97, 98, 99, 100, 101, 102, 103, 104, 105, 106, 107, 108, 109, 110, 111, 112, 113, 114, 115, 116, 117, 118, 119, 120, 121, 122, 123, 124, 125, 126, 127, 128, 129, 130, 131, 132, 133, 134, 135, 136, 137, 138, 148, 149, 150, 151, 152, 153, 154, 155, 156, 157, 158, 159, 160, 161, 162, 139, 140, 141, 142, 143, 144, 145, 146, 147, 163, 164, 165, 166, 167, 168, 169, 170, 171, 172, 173, 174, 175, 176, 177, 178, 179, 180, 181, 182, 183] (by decide +kernel) (by decide +kernel)) (goodIn_sub (fun _ h => List.mem_cons_of_mem _ (List.mem_append_right _ h)) (by decide +kernel))
set_option maxRecDepth 20000 in
theorem gX9_becomes_X9_foundAndPlanned : GoodIn wsX9_becomes (wsV RX9 185 RX9 yX9_foundAndPlanned wsX9_foundAndPlanned) := goodIn_app (goodIn_of _ (by decide +kernel)) ggX9_becomes_X9_foundAndPlanned
theorem dX9_becomes_0 : decode cX9_becomes 0 = .ok (.aload_n 0, 1) := by decide +kernel
theorem dX9_becomes_1 : decode cX9_becomes 1 = .ok (.iload_n 1, 1) := by decide +kernel
theorem dX9_becomes_2 : decode cX9_becomes 2 = .ok (.invokevirtual 185, 3) := by decide +kernel
theorem dX9_becomes_5 : decode cX9_becomes 5 = .ok (.getfield 188, 3) := by decide +kernel
theorem dX9_becomes_8 : decode cX9_becomes 8 = .ok (.ireturn, 1) := by decide +kernel
set_option maxRecDepth 20000 in
theorem ggX9_bursts_X9_foundAndPlanned : GoodIn wsX9_bursts wsX9_foundAndPlanned := goodIn_ca (goodIn_r _ [6, 7, 8, 9, 5, 10, 11, 12, 13, 14, 15, 16, 17, 18, 19, 20, 21, 22, 23, 24, 25, 26, 27, 28, 29, 30, 31, 32, 33, 34, 35, 36, 37, 38, 39, 40, 41, 42, 43, 44, 45, 46, 47, 48, 49, 50, 51, 52, 53, 54, 55, 56, 57, 58, 59, 60, 61, 62, 63, 64, 65, 66, 67, 68, 69, 70, 71, 72, 73, 74, 75, 76, 77, 78, 79, 80, 81, 82, 83, 84, 85, 86, 87, 88, 89, 90, 91, 92, 93, 94, 95, 96, 97, 98, 99, 100, 101, 102, 103, 104, 105, 106, 1, 107, 108, 109, 110, 111, 112, 113, 114, 115, 116, 117, 118, 119, 120, 121, 122, 123, 124, 125, 126, 127, 128, 129, 130, 131, 132, 133, 134, 135, 136, 137, 138, 148, 149, 150, 151, 152, 153, 154, 155, 156, 157, 158, 159, 160, 161, 162, 139, 140, 141, 142, 143, 144, 145, 146, 147, 163, 164, 165, 166, 167, 168, 169, 170, 171, 172, 173, 174, 175, 176, 177, 178, 179, 180, 181, 182, 183] (by decide +kernel) (by decide +kernel)) (goodIn_sub (fun _ h => List.mem_cons_of_mem _ (List.mem_append_right _ h)) (by decide +kernel))
set_option maxRecDepth 20000 in
theorem gX9_bursts_X9_foundAndPlanned : GoodIn wsX9_bursts (wsV RX9 185 RX9 yX9_foundAndPlanned wsX9_foundAndPlanned) := goodIn_app (goodIn_of _ (by decide +kernel)) ggX9_bursts_X9_foundAndPlanned
theorem dX9_bursts_0 : decode cX9_bursts 0 = .ok (.aload_n 0, 1) := by decide +kernel
theorem dX9_bursts_1 : decode cX9_bursts 1 = .ok (.iload_n 1, 1) := by decide +kernel
theorem dX9_bursts_2 : decode cX9_bursts 2 = .ok (.invokevirtual 185, 3) := by decide +kernel
theorem dX9_bursts_5 : decode cX9_bursts 5 = .ok (.getfield 191, 3) := by decide +kernel
theorem dX9_bursts_8 : decode cX9_bursts 8 = .ok (.ireturn, 1) := by decide +kernel
set_option maxRecDepth 20000 in
theorem ggX9_fires_X9_foundAndPlanned : GoodIn wsX9_fires wsX9_foundAndPlanned := goodIn_ca (goodIn_r _ [6, 7, 8, 9, 5, 10, 11, 12, 13, 14, 15, 16, 17, 18, 19, 20, 21, 22, 23, 24, 25, 26, 27, 28, 29, 30, 31, 32, 33, 34, 35, 36, 37, 38, 39, 40, 41, 42, 43, 44, 45, 46, 47, 48, 49, 50, 51, 52, 53, 54, 55, 56, 57, 58, 59, 60, 61, 62, 63, 64, 65, 66, 67, 68, 69, 70, 71, 72, 73, 74, 75, 76, 77, 78, 79, 80, 81, 82, 83, 84, 85, 86, 87, 88, 89, 90, 91, 92, 93, 94, 95, 96, 97, 98, 99, 100, 101, 102, 103, 104, 105, 106, 107, 108, 1, 109, 110, 111, 112, 113, 114, 115, 116, 117, 118, 119, 120, 121, 122, 123, 124, 125, 126, 127, 128, 129, 130, 131, 132, 133, 134, 135, 136, 137, 138, 148, 149, 150, 151, 152, 153, 154, 155, 156, 157, 158, 159, 160, 161, 162, 139, 140, 141, 142, 143, 144, 145, 146, 147, 163, 164, 165, 166, 167, 168, 169, 170, 171, 172, 173, 174, 175, 176, 177, 178, 179, 180, 181, 182, 183] (by decide +kernel) (by decide +kernel)) (goodIn_sub (fun _ h => List.mem_cons_of_mem _ (List.mem_append_right _ h)) (by decide +kernel))
set_option maxRecDepth 20000 in
theorem gX9_fires_X9_foundAndPlanned : GoodIn wsX9_fires (wsV RX9 185 RX9 yX9_foundAndPlanned wsX9_foundAndPlanned) := goodIn_app (goodIn_of _ (by decide +kernel)) ggX9_fires_X9_foundAndPlanned
theorem dX9_fires_0 : decode cX9_fires 0 = .ok (.aload_n 0, 1) := by decide +kernel
theorem dX9_fires_1 : decode cX9_fires 1 = .ok (.iload_n 1, 1) := by decide +kernel
theorem dX9_fires_2 : decode cX9_fires 2 = .ok (.invokevirtual 185, 3) := by decide +kernel
theorem dX9_fires_5 : decode cX9_fires 5 = .ok (.getfield 194, 3) := by decide +kernel
theorem dX9_fires_8 : decode cX9_fires 8 = .ok (.ireturn, 1) := by decide +kernel
set_option maxRecDepth 20000 in
theorem ggX9_falls_X9_found : GoodIn wsX9_falls wsX9_found := goodIn_ca (goodIn_r _ [7, 8, 9, 10, 11, 12, 6, 13, 51, 52, 53, 54, 55, 56, 57, 58, 59, 60, 61, 62, 63, 64, 65] (by decide +kernel) (by decide +kernel)) (goodIn_sub (fun _ h => List.mem_cons_of_mem _ (List.mem_append_right _ h)) (by decide +kernel))
set_option maxRecDepth 20000 in
theorem gX9_falls_X9_found : GoodIn wsX9_falls (wsV RX9 176 RX9 yX9_found wsX9_found) := goodIn_app (goodIn_of _ (by decide +kernel)) ggX9_falls_X9_found
set_option maxRecDepth 20000 in
theorem ggX9_falls_X9_outside : GoodIn wsX9_falls wsX9_outside := goodIn_r _ [13] (by decide +kernel) (by decide +kernel)
set_option maxRecDepth 20000 in
theorem gX9_falls_X9_outside : GoodIn wsX9_falls (va_wsS RX9 88 yX9_outside wsX9_outside) := goodIn_app (goodIn_of _ (by decide +kernel)) ggX9_falls_X9_outside
set_option maxRecDepth 20000 in
theorem ggX9_falls_X9_fallX : GoodIn wsX9_falls wsX9_fallX := goodIn_r _ [17, 18, 19, 20, 21, 22, 23, 24, 25, 26, 27, 28, 29, 30, 31, 32, 33, 66, 67, 68, 69, 70, 71, 72, 73, 74, 51, 52, 53, 54, 55, 56, 57, 58, 59, 60, 61, 62, 63, 64, 65, 75, 76, 77, 78, 79, 80, 81, 82, 83, 84, 85] (by decide +kernel) (by decide +kernel)
set_option maxRecDepth 20000 in
theorem gX9_falls_X9_fallX : GoodIn wsX9_falls (wsV RX9 199 RX9 yX9_fallX wsX9_fallX) := goodIn_app (goodIn_of _ (by decide +kernel)) ggX9_falls_X9_fallX
set_option maxRecDepth 20000 in
theorem ggX9_falls_X9_fallY : GoodIn wsX9_falls wsX9_fallY := goodIn_r _ [37, 18, 19, 20, 38, 39, 40, 41, 25, 42, 43, 28, 29, 30, 31, 32, 33, 66, 67, 68, 69, 70, 71, 72, 73, 74, 51, 52, 53, 54, 55, 56, 57, 58, 59, 60, 61, 62, 63, 64, 65, 75, 76, 77, 78, 79, 80, 81, 82, 83, 84, 85] (by decide +kernel) (by decide +kernel)
set_option maxRecDepth 20000 in
theorem gX9_falls_X9_fallY : GoodIn wsX9_falls (wsV RX9 203 RX9 yX9_fallY wsX9_fallY) := goodIn_app (goodIn_of _ (by decide +kernel)) ggX9_falls_X9_fallY
set_option maxRecDepth 20000 in
theorem ggX9_falls_X9_placeTold : GoodIn wsX9_falls wsX9_placeTold := goodIn_r _ [46, 47, 48, 49, 50] (by decide +kernel) (by decide +kernel)
set_option maxRecDepth 20000 in
theorem gX9_falls_X9_placeTold : GoodIn wsX9_falls (va_wsS RX9 206 yX9_placeTold wsX9_placeTold) := goodIn_app (goodIn_of _ (by decide +kernel)) ggX9_falls_X9_placeTold
theorem dX9_falls_0 : decode cX9_falls 0 = .ok (.aload_n 0, 1) := by decide +kernel
theorem dX9_falls_1 : decode cX9_falls 1 = .ok (.iload_n 1, 1) := by decide +kernel
theorem dX9_falls_2 : decode cX9_falls 2 = .ok (.invokevirtual 176, 3) := by decide +kernel
theorem dX9_falls_5 : decode cX9_falls 5 = .ok (.astore_n 3, 1) := by decide +kernel
theorem dX9_falls_6 : decode cX9_falls 6 = .ok (.iload_n 2, 1) := by decide +kernel
theorem dX9_falls_7 : decode cX9_falls 7 = .ok (.iconst 0, 1) := by decide +kernel
theorem dX9_falls_8 : decode cX9_falls 8 = .ok (.iconst 3, 1) := by decide +kernel
theorem dX9_falls_9 : decode cX9_falls 9 = .ok (.invokestatic 88, 3) := by decide +kernel
theorem dX9_falls_12 : decode cX9_falls 12 = .ok (.ifCond .eq 13, 3) := by decide +kernel
theorem dX9_falls_15 : decode cX9_falls 15 = .ok (.new 96, 3) := by decide +kernel
theorem dX9_falls_18 : decode cX9_falls 18 = .ok (.dup, 1) := by decide +kernel
theorem dX9_falls_19 : decode cX9_falls 19 = .ok (.ldc 197, 2) := by decide +kernel
theorem dX9_falls_21 : decode cX9_falls 21 = .ok (.invokespecial 100, 3) := by decide +kernel
theorem dX9_falls_24 : decode cX9_falls 24 = .ok (.athrow, 1) := by decide +kernel
theorem dX9_falls_25 : decode cX9_falls 25 = .ok (.iload_n 2, 1) := by decide +kernel
theorem dX9_falls_26 : decode cX9_falls 26 = .ok (.aload_n 0, 1) := by decide +kernel
theorem dX9_falls_27 : decode cX9_falls 27 = .ok (.aload_n 3, 1) := by decide +kernel
theorem dX9_falls_28 : decode cX9_falls 28 = .ok (.invokevirtual 199, 3) := by decide +kernel
theorem dX9_falls_31 : decode cX9_falls 31 = .ok (.aload_n 0, 1) := by decide +kernel
theorem dX9_falls_32 : decode cX9_falls 32 = .ok (.aload_n 3, 1) := by decide +kernel
theorem dX9_falls_33 : decode cX9_falls 33 = .ok (.invokevirtual 203, 3) := by decide +kernel
theorem dX9_falls_36 : decode cX9_falls 36 = .ok (.invokestatic 206, 3) := by decide +kernel
theorem dX9_falls_39 : decode cX9_falls 39 = .ok (.ireturn, 1) := by decide +kernel
set_option maxRecDepth 20000 in
theorem ggX9_fallsBySteps_X9_found : GoodIn wsX9_fallsBySteps wsX9_found := goodIn_ca (goodIn_r _ [16, 17, 18, 19, 20, 21, 15, 22, 82, 83, 84, 85, 86, 87, 88, 89, 90, 91, 92, 93, 94, 95, 96] (by decide +kernel) (by decide +kernel)) (goodIn_sub (fun _ h => List.mem_cons_of_mem _ (List.mem_append_right _ h)) (by decide +kernel))
set_option maxRecDepth 20000 in
theorem gX9_fallsBySteps_X9_found : GoodIn wsX9_fallsBySteps (wsV RX9 176 RX9 yX9_found wsX9_found) := goodIn_app (goodIn_of _ (by decide +kernel)) ggX9_fallsBySteps_X9_found
set_option maxRecDepth 20000 in
theorem ggX9_fallsBySteps_X9_outside : GoodIn wsX9_fallsBySteps wsX9_outside := goodIn_r _ [22] (by decide +kernel) (by decide +kernel)
set_option maxRecDepth 20000 in
theorem gX9_fallsBySteps_X9_outside : GoodIn wsX9_fallsBySteps (va_wsS RX9 88 yX9_outside wsX9_outside) := goodIn_app (goodIn_of _ (by decide +kernel)) ggX9_fallsBySteps_X9_outside
set_option maxRecDepth 20000 in
theorem ggX9_fallsBySteps_X3_start : GoodIn wsX9_fallsBySteps wsX3_start := goodIn_r _ [27, 28, 29, 30, 31, 32, 33, 34, 35, 36, 37, 38, 39, 40, 41, 42, 43, 44, 45, 46, 47, 48, 49, 50, 51, 52, 53, 106, 107, 108, 114, 115, 116, 117, 118, 119, 120, 109, 110, 111, 112, 113, 121, 122] (by decide +kernel) (by decide +kernel)
set_option maxRecDepth 20000 in
theorem gX9_fallsBySteps_X3_start : GoodIn wsX9_fallsBySteps (wsV RX9 218 RX3 yX3_start wsX3_start) := goodIn_app (goodIn_of _ (by decide +kernel)) ggX9_fallsBySteps_X3_start
set_option maxRecDepth 20000 in
theorem ggX9_fallsBySteps_X3_driveAndPass : GoodIn wsX9_fallsBySteps wsX3_driveAndPass := goodIn_r _ [57, 28, 31, 58, 32, 59, 60, 61, 62, 36, 63, 40, 64, 65, 66, 67, 68, 69, 70, 71, 72, 73, 74, 41, 39, 42, 38, 106, 107, 108, 123, 124, 109, 110, 111, 112, 113] (by decide +kernel) (by decide +kernel)
set_option maxRecDepth 20000 in
theorem gX9_fallsBySteps_X3_driveAndPass : GoodIn wsX9_fallsBySteps (wsV RX9 232 RX3 yX3_driveAndPass wsX3_driveAndPass) := goodIn_app (goodIn_of _ (by decide +kernel)) ggX9_fallsBySteps_X3_driveAndPass
set_option maxRecDepth 20000 in
theorem ggX9_fallsBySteps_X9_placeTold : GoodIn wsX9_fallsBySteps wsX9_placeTold := goodIn_r _ [77, 78, 79, 80, 81] (by decide +kernel) (by decide +kernel)
set_option maxRecDepth 20000 in
theorem gX9_fallsBySteps_X9_placeTold : GoodIn wsX9_fallsBySteps (va_wsS RX9 206 yX9_placeTold wsX9_placeTold) := goodIn_app (goodIn_of _ (by decide +kernel)) ggX9_fallsBySteps_X9_placeTold
theorem dX9_fallsBySteps_0 : decode cX9_fallsBySteps 0 = .ok (.aload_n 0, 1) := by decide +kernel
theorem dX9_fallsBySteps_1 : decode cX9_fallsBySteps 1 = .ok (.iload_n 1, 1) := by decide +kernel
theorem dX9_fallsBySteps_2 : decode cX9_fallsBySteps 2 = .ok (.invokevirtual 176, 3) := by decide +kernel
theorem dX9_fallsBySteps_5 : decode cX9_fallsBySteps 5 = .ok (.astore_n 3, 1) := by decide +kernel
theorem dX9_fallsBySteps_6 : decode cX9_fallsBySteps 6 = .ok (.iload_n 2, 1) := by decide +kernel
theorem dX9_fallsBySteps_7 : decode cX9_fallsBySteps 7 = .ok (.iconst 0, 1) := by decide +kernel
theorem dX9_fallsBySteps_8 : decode cX9_fallsBySteps 8 = .ok (.iconst 3, 1) := by decide +kernel
theorem dX9_fallsBySteps_9 : decode cX9_fallsBySteps 9 = .ok (.invokestatic 88, 3) := by decide +kernel
theorem dX9_fallsBySteps_12 : decode cX9_fallsBySteps 12 = .ok (.ifCond .eq 13, 3) := by decide +kernel
theorem dX9_fallsBySteps_15 : decode cX9_fallsBySteps 15 = .ok (.new 96, 3) := by decide +kernel
theorem dX9_fallsBySteps_18 : decode cX9_fallsBySteps 18 = .ok (.dup, 1) := by decide +kernel
theorem dX9_fallsBySteps_19 : decode cX9_fallsBySteps 19 = .ok (.ldc 197, 2) := by decide +kernel
theorem dX9_fallsBySteps_21 : decode cX9_fallsBySteps 21 = .ok (.invokespecial 100, 3) := by decide +kernel
theorem dX9_fallsBySteps_24 : decode cX9_fallsBySteps 24 = .ok (.athrow, 1) := by decide +kernel
theorem dX9_fallsBySteps_25 : decode cX9_fallsBySteps 25 = .ok (.aload_n 0, 1) := by decide +kernel
theorem dX9_fallsBySteps_26 : decode cX9_fallsBySteps 26 = .ok (.getfield 38, 3) := by decide +kernel
theorem dX9_fallsBySteps_29 : decode cX9_fallsBySteps 29 = .ok (.aload_n 3, 1) := by decide +kernel
theorem dX9_fallsBySteps_30 : decode cX9_fallsBySteps 30 = .ok (.getfield 210, 3) := by decide +kernel
theorem dX9_fallsBySteps_33 : decode cX9_fallsBySteps 33 = .ok (.aload_n 3, 1) := by decide +kernel
theorem dX9_fallsBySteps_34 : decode cX9_fallsBySteps 34 = .ok (.getfield 214, 3) := by decide +kernel
theorem dX9_fallsBySteps_37 : decode cX9_fallsBySteps 37 = .ok (.invokevirtual 218, 3) := by decide +kernel
theorem dX9_fallsBySteps_40 : decode cX9_fallsBySteps 40 = .ok (.iconst 0, 1) := by decide +kernel
theorem dX9_fallsBySteps_41 : decode cX9_fallsBySteps 41 = .ok (.istore 4, 2) := by decide +kernel
theorem dX9_fallsBySteps_43 : decode cX9_fallsBySteps 43 = .ok (.iload 4, 2) := by decide +kernel
theorem dX9_fallsBySteps_45 : decode cX9_fallsBySteps 45 = .ok (.ldc 222, 2) := by decide +kernel
theorem dX9_fallsBySteps_47 : decode cX9_fallsBySteps 47 = .ok (.if_icmp .ge 33, 3) := by decide +kernel
theorem dX9_fallsBySteps_50 : decode cX9_fallsBySteps 50 = .ok (.aload_n 0, 1) := by decide +kernel
theorem dX9_fallsBySteps_51 : decode cX9_fallsBySteps 51 = .ok (.getfield 38, 3) := by decide +kernel
theorem dX9_fallsBySteps_54 : decode cX9_fallsBySteps 54 = .ok (.getfield 223, 3) := by decide +kernel
theorem dX9_fallsBySteps_57 : decode cX9_fallsBySteps 57 = .ok (.getfield 227, 3) := by decide +kernel
theorem dX9_fallsBySteps_60 : decode cX9_fallsBySteps 60 = .ok (.ifCond .ne 20, 3) := by decide +kernel
theorem dX9_fallsBySteps_63 : decode cX9_fallsBySteps 63 = .ok (.aload_n 0, 1) := by decide +kernel
theorem dX9_fallsBySteps_64 : decode cX9_fallsBySteps 64 = .ok (.getfield 38, 3) := by decide +kernel
theorem dX9_fallsBySteps_67 : decode cX9_fallsBySteps 67 = .ok (.aload_n 0, 1) := by decide +kernel
theorem dX9_fallsBySteps_68 : decode cX9_fallsBySteps 68 = .ok (.getfield 31, 3) := by decide +kernel
theorem dX9_fallsBySteps_71 : decode cX9_fallsBySteps 71 = .ok (.invokevirtual 232, 3) := by decide +kernel
theorem dX9_fallsBySteps_74 : decode cX9_fallsBySteps 74 = .ok (.iinc 4 1, 3) := by decide +kernel
theorem dX9_fallsBySteps_77 : decode cX9_fallsBySteps 77 = .ok (.goto (-34), 3) := by decide +kernel
theorem dX9_fallsBySteps_80 : decode cX9_fallsBySteps 80 = .ok (.iload_n 2, 1) := by decide +kernel
theorem dX9_fallsBySteps_81 : decode cX9_fallsBySteps 81 = .ok (.aload_n 0, 1) := by decide +kernel
theorem dX9_fallsBySteps_82 : decode cX9_fallsBySteps 82 = .ok (.getfield 38, 3) := by decide +kernel
theorem dX9_fallsBySteps_85 : decode cX9_fallsBySteps 85 = .ok (.getfield 236, 3) := by decide +kernel
theorem dX9_fallsBySteps_88 : decode cX9_fallsBySteps 88 = .ok (.aload_n 0, 1) := by decide +kernel
theorem dX9_fallsBySteps_89 : decode cX9_fallsBySteps 89 = .ok (.getfield 38, 3) := by decide +kernel
theorem dX9_fallsBySteps_92 : decode cX9_fallsBySteps 92 = .ok (.getfield 238, 3) := by decide +kernel
theorem dX9_fallsBySteps_95 : decode cX9_fallsBySteps 95 = .ok (.invokestatic 206, 3) := by decide +kernel
theorem dX9_fallsBySteps_98 : decode cX9_fallsBySteps 98 = .ok (.ireturn, 1) := by decide +kernel
set_option maxRecDepth 20000 in
theorem ggX9_burstAt_X9_found : GoodIn wsX9_burstAt wsX9_found := goodIn_ca (goodIn_r _ [17, 18, 19, 20, 21, 22, 16, 23, 76, 77, 78, 79, 80, 81, 82, 83, 84, 85, 86, 87, 88, 89, 90] (by decide +kernel) (by decide +kernel)) (goodIn_sub (fun _ h => List.mem_cons_of_mem _ (List.mem_append_right _ h)) (by decide +kernel))
set_option maxRecDepth 20000 in
theorem gX9_burstAt_X9_found : GoodIn wsX9_burstAt (wsV RX9 176 RX9 yX9_found wsX9_found) := goodIn_app (goodIn_of _ (by decide +kernel)) ggX9_burstAt_X9_found
set_option maxRecDepth 20000 in
theorem ggX9_burstAt_X9_outside : GoodIn wsX9_burstAt wsX9_outside := goodIn_r _ [23] (by decide +kernel) (by decide +kernel)
set_option maxRecDepth 20000 in
theorem gX9_burstAt_X9_outside : GoodIn wsX9_burstAt (va_wsS RX9 88 yX9_outside wsX9_outside) := goodIn_app (goodIn_of _ (by decide +kernel)) ggX9_burstAt_X9_outside
set_option maxRecDepth 20000 in
theorem ggX9_burstAt_X3_start : GoodIn wsX9_burstAt wsX3_start := goodIn_r _ [28, 29, 30, 31, 32, 33, 34, 35, 36, 37, 38, 39, 40, 41, 42, 43, 44, 45, 46, 47, 48, 49, 50, 51, 52, 53, 54, 100, 101, 102, 108, 109, 110, 111, 112, 113, 114, 103, 104, 105, 106, 107, 115, 116] (by decide +kernel) (by decide +kernel)
set_option maxRecDepth 20000 in
theorem gX9_burstAt_X3_start : GoodIn wsX9_burstAt (wsV RX9 218 RX3 yX3_start wsX3_start) := goodIn_app (goodIn_of _ (by decide +kernel)) ggX9_burstAt_X3_start
set_option maxRecDepth 20000 in
theorem ggX9_burstAt_X3_driveAndPass : GoodIn wsX9_burstAt wsX3_driveAndPass := goodIn_r _ [58, 29, 32, 59, 33, 60, 61, 62, 63, 37, 64, 41, 65, 66, 67, 68, 69, 70, 71, 72, 73, 74, 75, 42, 40, 43, 39, 100, 101, 102, 117, 118, 103, 104, 105, 106, 107] (by decide +kernel) (by decide +kernel)
set_option maxRecDepth 20000 in
theorem gX9_burstAt_X3_driveAndPass : GoodIn wsX9_burstAt (wsV RX9 232 RX3 yX3_driveAndPass wsX3_driveAndPass) := goodIn_app (goodIn_of _ (by decide +kernel)) ggX9_burstAt_X3_driveAndPass
theorem dX9_burstAt_0 : decode cX9_burstAt 0 = .ok (.aload_n 0, 1) := by decide +kernel
theorem dX9_burstAt_1 : decode cX9_burstAt 1 = .ok (.iload_n 1, 1) := by decide +kernel
theorem dX9_burstAt_2 : decode cX9_burstAt 2 = .ok (.invokevirtual 176, 3) := by decide +kernel
theorem dX9_burstAt_5 : decode cX9_burstAt 5 = .ok (.astore_n 3, 1) := by decide +kernel
theorem dX9_burstAt_6 : decode cX9_burstAt 6 = .ok (.iload_n 2, 1) := by decide +kernel
theorem dX9_burstAt_7 : decode cX9_burstAt 7 = .ok (.iconst 0, 1) := by decide +kernel
theorem dX9_burstAt_8 : decode cX9_burstAt 8 = .ok (.iconst 2, 1) := by decide +kernel
theorem dX9_burstAt_9 : decode cX9_burstAt 9 = .ok (.invokestatic 88, 3) := by decide +kernel
theorem dX9_burstAt_12 : decode cX9_burstAt 12 = .ok (.ifCond .eq 13, 3) := by decide +kernel
theorem dX9_burstAt_15 : decode cX9_burstAt 15 = .ok (.new 96, 3) := by decide +kernel
theorem dX9_burstAt_18 : decode cX9_burstAt 18 = .ok (.dup, 1) := by decide +kernel
theorem dX9_burstAt_19 : decode cX9_burstAt 19 = .ok (.ldc 197, 2) := by decide +kernel
theorem dX9_burstAt_21 : decode cX9_burstAt 21 = .ok (.invokespecial 100, 3) := by decide +kernel
theorem dX9_burstAt_24 : decode cX9_burstAt 24 = .ok (.athrow, 1) := by decide +kernel
theorem dX9_burstAt_25 : decode cX9_burstAt 25 = .ok (.aload_n 0, 1) := by decide +kernel
theorem dX9_burstAt_26 : decode cX9_burstAt 26 = .ok (.getfield 38, 3) := by decide +kernel
theorem dX9_burstAt_29 : decode cX9_burstAt 29 = .ok (.aload_n 3, 1) := by decide +kernel
theorem dX9_burstAt_30 : decode cX9_burstAt 30 = .ok (.getfield 210, 3) := by decide +kernel
theorem dX9_burstAt_33 : decode cX9_burstAt 33 = .ok (.aload_n 3, 1) := by decide +kernel
theorem dX9_burstAt_34 : decode cX9_burstAt 34 = .ok (.getfield 214, 3) := by decide +kernel
theorem dX9_burstAt_37 : decode cX9_burstAt 37 = .ok (.invokevirtual 218, 3) := by decide +kernel
theorem dX9_burstAt_40 : decode cX9_burstAt 40 = .ok (.iconst 0, 1) := by decide +kernel
theorem dX9_burstAt_41 : decode cX9_burstAt 41 = .ok (.istore 4, 2) := by decide +kernel
theorem dX9_burstAt_43 : decode cX9_burstAt 43 = .ok (.iload 4, 2) := by decide +kernel
theorem dX9_burstAt_45 : decode cX9_burstAt 45 = .ok (.ldc 222, 2) := by decide +kernel
theorem dX9_burstAt_47 : decode cX9_burstAt 47 = .ok (.if_icmp .ge 33, 3) := by decide +kernel
theorem dX9_burstAt_50 : decode cX9_burstAt 50 = .ok (.aload_n 0, 1) := by decide +kernel
theorem dX9_burstAt_51 : decode cX9_burstAt 51 = .ok (.getfield 38, 3) := by decide +kernel
theorem dX9_burstAt_54 : decode cX9_burstAt 54 = .ok (.getfield 223, 3) := by decide +kernel
theorem dX9_burstAt_57 : decode cX9_burstAt 57 = .ok (.getfield 240, 3) := by decide +kernel
theorem dX9_burstAt_60 : decode cX9_burstAt 60 = .ok (.ifCond .ne 20, 3) := by decide +kernel
theorem dX9_burstAt_63 : decode cX9_burstAt 63 = .ok (.aload_n 0, 1) := by decide +kernel
theorem dX9_burstAt_64 : decode cX9_burstAt 64 = .ok (.getfield 38, 3) := by decide +kernel
theorem dX9_burstAt_67 : decode cX9_burstAt 67 = .ok (.aload_n 0, 1) := by decide +kernel
theorem dX9_burstAt_68 : decode cX9_burstAt 68 = .ok (.getfield 31, 3) := by decide +kernel
theorem dX9_burstAt_71 : decode cX9_burstAt 71 = .ok (.invokevirtual 232, 3) := by decide +kernel
theorem dX9_burstAt_74 : decode cX9_burstAt 74 = .ok (.iinc 4 1, 3) := by decide +kernel
theorem dX9_burstAt_77 : decode cX9_burstAt 77 = .ok (.goto (-34), 3) := by decide +kernel
theorem dX9_burstAt_80 : decode cX9_burstAt 80 = .ok (.iload_n 2, 1) := by decide +kernel
theorem dX9_burstAt_81 : decode cX9_burstAt 81 = .ok (.iconst 2, 1) := by decide +kernel
theorem dX9_burstAt_82 : decode cX9_burstAt 82 = .ok (.if_icmp .ne 14, 3) := by decide +kernel
theorem dX9_burstAt_85 : decode cX9_burstAt 85 = .ok (.aload_n 0, 1) := by decide +kernel
theorem dX9_burstAt_86 : decode cX9_burstAt 86 = .ok (.getfield 38, 3) := by decide +kernel
theorem dX9_burstAt_89 : decode cX9_burstAt 89 = .ok (.getfield 223, 3) := by decide +kernel
theorem dX9_burstAt_92 : decode cX9_burstAt 92 = .ok (.getfield 243, 3) := by decide +kernel
theorem dX9_burstAt_95 : decode cX9_burstAt 95 = .ok (.ireturn, 1) := by decide +kernel
theorem dX9_burstAt_96 : decode cX9_burstAt 96 = .ok (.iload_n 2, 1) := by decide +kernel
theorem dX9_burstAt_97 : decode cX9_burstAt 97 = .ok (.ifCond .ne 13, 3) := by decide +kernel
theorem dX9_burstAt_100 : decode cX9_burstAt 100 = .ok (.aload_n 0, 1) := by decide +kernel
theorem dX9_burstAt_101 : decode cX9_burstAt 101 = .ok (.getfield 38, 3) := by decide +kernel
theorem dX9_burstAt_104 : decode cX9_burstAt 104 = .ok (.getfield 236, 3) := by decide +kernel
theorem dX9_burstAt_107 : decode cX9_burstAt 107 = .ok (.goto 10, 3) := by decide +kernel
theorem dX9_burstAt_110 : decode cX9_burstAt 110 = .ok (.aload_n 0, 1) := by decide +kernel
theorem dX9_burstAt_111 : decode cX9_burstAt 111 = .ok (.getfield 38, 3) := by decide +kernel
theorem dX9_burstAt_114 : decode cX9_burstAt 114 = .ok (.getfield 238, 3) := by decide +kernel
theorem dX9_burstAt_117 : decode cX9_burstAt 117 = .ok (.ireturn, 1) := by decide +kernel
set_option maxRecDepth 20000 in
theorem ggX9_danger_X9_foundAndPlanned : GoodIn wsX9_danger wsX9_foundAndPlanned := goodIn_ca (goodIn_r _ [6, 7, 8, 9, 5, 10, 11, 12, 13, 14, 15, 16, 17, 18, 19, 20, 21, 22, 23, 24, 25, 26, 27, 28, 29, 1, 30, 31, 32, 33, 34, 35, 36, 37, 38, 39, 40, 41, 42, 43, 44, 45, 46, 47, 48, 49, 50, 51, 52, 53, 54, 55, 56, 57, 58, 59, 60, 61, 62, 63, 64, 65, 66, 67, 68, 69, 70, 71, 72, 73, 74, 75, 76, 77, 78, 79, 80, 81, 82, 83, 84, 85, 86, 87, 88, 89, 90, 91, 92, 93, 94, 95, 96, 97, 98, 99, 100, 101, 102, 103, 104, 105, 106, 107, 108, 109, 110, 111, 112, 113, 114, 115, 116, 117, 118, 119, 120, 121, 122, 123, 124, 125, 126, 127, 128, 129, 130, 131, 132, 133, 134, 135, 136, 137, 138, 148, 149, 150, 151, 152, 153, 154, 155, 156, 157, 158, 159, 160, 161, 162, 139, 140, 141, 142, 143, 144, 145, 146, 147, 163, 164, 165, 166, 167, 168, 169, 170, 171, 172, 173, 174, 175, 176, 177, 178, 179, 180, 181, 182, 183] (by decide +kernel) (by decide +kernel)) (goodIn_sub (fun _ h => List.mem_cons_of_mem _ (List.mem_append_right _ h)) (by decide +kernel))
set_option maxRecDepth 20000 in
theorem gX9_danger_X9_foundAndPlanned : GoodIn wsX9_danger (wsV RX9 185 RX9 yX9_foundAndPlanned wsX9_foundAndPlanned) := goodIn_app (goodIn_of _ (by decide +kernel)) ggX9_danger_X9_foundAndPlanned
theorem dX9_danger_0 : decode cX9_danger 0 = .ok (.aload_n 0, 1) := by decide +kernel
theorem dX9_danger_1 : decode cX9_danger 1 = .ok (.iload_n 1, 1) := by decide +kernel
theorem dX9_danger_2 : decode cX9_danger 2 = .ok (.invokevirtual 185, 3) := by decide +kernel
theorem dX9_danger_5 : decode cX9_danger 5 = .ok (.getfield 246, 3) := by decide +kernel
theorem dX9_danger_8 : decode cX9_danger 8 = .ok (.lreturn, 1) := by decide +kernel
theorem dX9_cues_0 : decode cX9_cues 0 = .ok (.aload_n 0, 1) := by decide +kernel
theorem dX9_cues_1 : decode cX9_cues 1 = .ok (.getfield 73, 3) := by decide +kernel
theorem dX9_cues_4 : decode cX9_cues 4 = .ok (.ireturn, 1) := by decide +kernel
set_option maxRecDepth 20000 in
theorem ggX9_fired_X9_plan : GoodIn wsX9_fired wsX9_plan := goodIn_r _ [6, 7, 8, 9, 10, 11, 12, 5, 13, 14, 15, 16, 17, 18, 19, 20, 21, 22, 23, 24, 25, 26, 27, 28, 29, 30, 31, 32, 33, 34, 35, 36, 37, 38, 39, 40, 41, 42, 43, 44, 45, 46, 47, 48, 49, 50, 51, 52, 53, 54, 55, 56, 57, 58, 59, 60, 61, 62, 63, 64, 65, 66, 67, 68, 69, 70, 71, 72, 73, 74, 75, 76, 77, 78, 79, 80, 81, 82, 83, 84, 85, 86, 87, 88, 89, 1, 90, 91, 92, 93, 94, 95, 96, 97, 98, 99, 100, 101, 102, 103, 104, 105, 106, 107, 108, 109, 110, 111, 112, 113, 114, 115, 116, 117, 118, 119, 120, 121, 122, 123, 124, 125, 126, 127, 128, 129, 130, 131, 132, 133, 134, 135, 136, 137, 138, 139, 140, 141, 142, 143, 144, 145, 146, 147, 148, 149, 150, 151, 152, 153, 154, 155, 156, 157, 158, 159, 160, 161, 162, 163, 164, 165, 166, 167, 168, 169, 170] (by decide +kernel) (by decide +kernel)
set_option maxRecDepth 20000 in
theorem gX9_fired_X9_plan : GoodIn wsX9_fired (wsV RX9 250 RX9 yX9_plan wsX9_plan) := goodIn_app (goodIn_of _ (by decide +kernel)) ggX9_fired_X9_plan
theorem dX9_fired_0 : decode cX9_fired 0 = .ok (.aload_n 0, 1) := by decide +kernel
theorem dX9_fired_1 : decode cX9_fired 1 = .ok (.invokevirtual 250, 3) := by decide +kernel
theorem dX9_fired_4 : decode cX9_fired 4 = .ok (.aload_n 0, 1) := by decide +kernel
theorem dX9_fired_5 : decode cX9_fired 5 = .ok (.getfield 76, 3) := by decide +kernel
theorem dX9_fired_8 : decode cX9_fired 8 = .ok (.ireturn, 1) := by decide +kernel
set_option maxRecDepth 20000 in
theorem ggX9_firing_X9_plan : GoodIn wsX9_firing wsX9_plan := goodIn_r _ [10, 11, 12, 13, 14, 15, 16, 9, 17, 18, 19, 20, 21, 22, 23, 24, 25, 26, 27, 28, 29, 30, 31, 32, 33, 34, 35, 36, 37, 38, 39, 40, 41, 42, 43, 44, 45, 46, 47, 48, 49, 50, 51, 52, 53, 54, 55, 56, 57, 58, 59, 60, 61, 62, 63, 64, 65, 66, 67, 68, 69, 70, 71, 72, 73, 74, 75, 76, 77, 78, 79, 80, 81, 82, 83, 84, 85, 86, 87, 88, 89, 90, 91, 92, 93, 3, 94, 95, 96, 97, 98, 99, 100, 101, 102, 103, 104, 4, 105, 106, 107, 108, 109, 5, 110, 111, 112, 113, 114, 115, 116, 117, 118, 119, 120, 121, 122, 123, 124, 125, 126, 127, 128, 129, 130, 131, 132, 133, 134, 135, 136, 137, 138, 139, 140, 141, 142, 143, 144, 145, 146, 147, 148, 149, 150, 151, 152, 153, 154, 155, 156, 157, 158, 159, 160, 161, 162, 163, 164, 165, 166, 167, 168, 169, 170, 171, 172] (by decide +kernel) (by decide +kernel)
set_option maxRecDepth 20000 in
theorem gX9_firing_X9_plan : GoodIn wsX9_firing (wsV RX9 250 RX9 yX9_plan wsX9_plan) := goodIn_app (goodIn_of _ (by decide +kernel)) ggX9_firing_X9_plan
theorem dX9_firing_0 : decode cX9_firing 0 = .ok (.aload_n 0, 1) := by decide +kernel
theorem dX9_firing_1 : decode cX9_firing 1 = .ok (.invokevirtual 250, 3) := by decide +kernel
theorem dX9_firing_4 : decode cX9_firing 4 = .ok (.iload_n 1, 1) := by decide +kernel
theorem dX9_firing_5 : decode cX9_firing 5 = .ok (.ifCond .lt 11, 3) := by decide +kernel
theorem dX9_firing_8 : decode cX9_firing 8 = .ok (.iload_n 1, 1) := by decide +kernel
theorem dX9_firing_9 : decode cX9_firing 9 = .ok (.aload_n 0, 1) := by decide +kernel
theorem dX9_firing_10 : decode cX9_firing 10 = .ok (.getfield 76, 3) := by decide +kernel
theorem dX9_firing_13 : decode cX9_firing 13 = .ok (.if_icmp .lt 13, 3) := by decide +kernel
theorem dX9_firing_16 : decode cX9_firing 16 = .ok (.new 253, 3) := by decide +kernel
theorem dX9_firing_19 : decode cX9_firing 19 = .ok (.dup, 1) := by decide +kernel
theorem dX9_firing_20 : decode cX9_firing 20 = .ok (.ldc 255, 2) := by decide +kernel
theorem dX9_firing_22 : decode cX9_firing 22 = .ok (.invokespecial 257, 3) := by decide +kernel
theorem dX9_firing_25 : decode cX9_firing 25 = .ok (.athrow, 1) := by decide +kernel
theorem dX9_firing_26 : decode cX9_firing 26 = .ok (.aload_n 0, 1) := by decide +kernel
theorem dX9_firing_27 : decode cX9_firing 27 = .ok (.getfield 62, 3) := by decide +kernel
theorem dX9_firing_30 : decode cX9_firing 30 = .ok (.iload_n 1, 1) := by decide +kernel
theorem dX9_firing_31 : decode cX9_firing 31 = .ok (.aaload, 1) := by decide +kernel
theorem dX9_firing_32 : decode cX9_firing 32 = .ok (.getfield 180, 3) := by decide +kernel
theorem dX9_firing_35 : decode cX9_firing 35 = .ok (.ireturn, 1) := by decide +kernel
set_option maxRecDepth 20000 in
theorem ggX9_closed_X9_plan : GoodIn wsX9_closed wsX9_plan := goodIn_r _ [7, 8, 1, 9, 10, 11, 12, 6, 13, 14, 15, 16, 17, 18, 19, 20, 21, 22, 23, 24, 25, 26, 27, 28, 29, 30, 31, 32, 33, 34, 35, 36, 37, 38, 39, 40, 41, 42, 43, 44, 45, 46, 47, 48, 49, 50, 51, 52, 53, 54, 55, 56, 57, 58, 59, 60, 61, 62, 63, 64, 65, 66, 67, 68, 69, 70, 71, 72, 73, 74, 75, 76, 77, 78, 79, 80, 81, 82, 83, 84, 85, 86, 87, 88, 89, 90, 91, 92, 93, 94, 95, 96, 97, 98, 99, 100, 101, 102, 103, 104, 105, 106, 107, 108, 109, 110, 111, 112, 113, 114, 115, 116, 117, 118, 119, 120, 121, 122, 123, 124, 125, 126, 127, 128, 129, 130, 131, 132, 133, 134, 135, 136, 137, 138, 139, 140, 141, 146, 147, 148, 149, 150, 151, 152, 153, 154, 155, 156, 157, 158, 159, 160, 161, 162, 163, 164, 165, 166, 167, 142, 143, 144, 145, 168, 169, 170, 171] (by decide +kernel) (by decide +kernel)
set_option maxRecDepth 20000 in
theorem gX9_closed_X9_plan : GoodIn wsX9_closed (wsV RX9 250 RX9 yX9_plan wsX9_plan) := goodIn_app (goodIn_of _ (by decide +kernel)) ggX9_closed_X9_plan
theorem dX9_closed_0 : decode cX9_closed 0 = .ok (.aload_n 0, 1) := by decide +kernel
theorem dX9_closed_1 : decode cX9_closed 1 = .ok (.invokevirtual 250, 3) := by decide +kernel
theorem dX9_closed_4 : decode cX9_closed 4 = .ok (.aload_n 0, 1) := by decide +kernel
theorem dX9_closed_5 : decode cX9_closed 5 = .ok (.getfield 51, 3) := by decide +kernel
theorem dX9_closed_8 : decode cX9_closed 8 = .ok (.getfield 258, 3) := by decide +kernel
theorem dX9_closed_11 : decode cX9_closed 11 = .ok (.ireturn, 1) := by decide +kernel
set_option maxRecDepth 20000 in
theorem ggX9_kill_X9_outside : GoodIn wsX9_kill wsX9_outside := goodIn_r _ [9] (by decide +kernel) (by decide +kernel)
set_option maxRecDepth 20000 in
theorem gX9_kill_X9_outside : GoodIn wsX9_kill (va_wsS RX9 88 yX9_outside wsX9_outside) := goodIn_app (goodIn_of _ (by decide +kernel)) ggX9_kill_X9_outside
theorem dX9_kill_0 : decode cX9_kill 0 = .ok (.iload_n 1, 1) := by decide +kernel
theorem dX9_kill_1 : decode cX9_kill 1 = .ok (.iconst 0, 1) := by decide +kernel
theorem dX9_kill_2 : decode cX9_kill 2 = .ok (.iconst 3, 1) := by decide +kernel
theorem dX9_kill_3 : decode cX9_kill 3 = .ok (.invokestatic 88, 3) := by decide +kernel
theorem dX9_kill_6 : decode cX9_kill 6 = .ok (.ifCond .ne 13, 3) := by decide +kernel
theorem dX9_kill_9 : decode cX9_kill 9 = .ok (.iload_n 2, 1) := by decide +kernel
theorem dX9_kill_10 : decode cX9_kill 10 = .ok (.iconst 0, 1) := by decide +kernel
theorem dX9_kill_11 : decode cX9_kill 11 = .ok (.bipush 7, 2) := by decide +kernel
theorem dX9_kill_13 : decode cX9_kill 13 = .ok (.invokestatic 88, 3) := by decide +kernel
theorem dX9_kill_16 : decode cX9_kill 16 = .ok (.ifCond .eq 14, 3) := by decide +kernel
theorem dX9_kill_19 : decode cX9_kill 19 = .ok (.new 96, 3) := by decide +kernel
theorem dX9_kill_22 : decode cX9_kill 22 = .ok (.dup, 1) := by decide +kernel
theorem dX9_kill_23 : decode cX9_kill 23 = .ok (.ldc_w 261, 3) := by decide +kernel
theorem dX9_kill_26 : decode cX9_kill 26 = .ok (.invokespecial 100, 3) := by decide +kernel
theorem dX9_kill_29 : decode cX9_kill 29 = .ok (.athrow, 1) := by decide +kernel
theorem dX9_kill_30 : decode cX9_kill 30 = .ok (.bipush 8, 2) := by decide +kernel
theorem dX9_kill_32 : decode cX9_kill 32 = .ok (.iload_n 1, 1) := by decide +kernel
theorem dX9_kill_33 : decode cX9_kill 33 = .ok (.imul, 1) := by decide +kernel
theorem dX9_kill_34 : decode cX9_kill 34 = .ok (.iload_n 2, 1) := by decide +kernel
theorem dX9_kill_35 : decode cX9_kill 35 = .ok (.iadd, 1) := by decide +kernel
theorem dX9_kill_36 : decode cX9_kill 36 = .ok (.istore_n 3, 1) := by decide +kernel
theorem dX9_kill_37 : decode cX9_kill 37 = .ok (.aload_n 0, 1) := by decide +kernel
theorem dX9_kill_38 : decode cX9_kill 38 = .ok (.getfield 58, 3) := by decide +kernel
theorem dX9_kill_41 : decode cX9_kill 41 = .ok (.getfield 263, 3) := by decide +kernel
theorem dX9_kill_44 : decode cX9_kill 44 = .ok (.iload_n 3, 1) := by decide +kernel
theorem dX9_kill_45 : decode cX9_kill 45 = .ok (.aload_n 0, 1) := by decide +kernel
theorem dX9_kill_46 : decode cX9_kill 46 = .ok (.getfield 58, 3) := by decide +kernel
theorem dX9_kill_49 : decode cX9_kill 49 = .ok (.getfield 263, 3) := by decide +kernel
theorem dX9_kill_52 : decode cX9_kill 52 = .ok (.iload_n 3, 1) := by decide +kernel
theorem dX9_kill_53 : decode cX9_kill 53 = .ok (.baload, 1) := by decide +kernel
theorem dX9_kill_54 : decode cX9_kill 54 = .ok (.ifCond .ne 7, 3) := by decide +kernel
theorem dX9_kill_57 : decode cX9_kill 57 = .ok (.iconst 1, 1) := by decide +kernel
theorem dX9_kill_58 : decode cX9_kill 58 = .ok (.goto 4, 3) := by decide +kernel
theorem dX9_kill_61 : decode cX9_kill 61 = .ok (.iconst 0, 1) := by decide +kernel
theorem dX9_kill_62 : decode cX9_kill 62 = .ok (.bastore, 1) := by decide +kernel
theorem dX9_kill_63 : decode cX9_kill 63 = .ok (.aload_n 0, 1) := by decide +kernel
theorem dX9_kill_64 : decode cX9_kill 64 = .ok (.iconst 0, 1) := by decide +kernel
theorem dX9_kill_65 : decode cX9_kill 65 = .ok (.putfield 82, 3) := by decide +kernel
theorem dX9_kill_68 : decode cX9_kill 68 = .ok (.aload_n 0, 1) := by decide +kernel
theorem dX9_kill_69 : decode cX9_kill 69 = .ok (.getfield 58, 3) := by decide +kernel
theorem dX9_kill_72 : decode cX9_kill 72 = .ok (.getfield 263, 3) := by decide +kernel
theorem dX9_kill_75 : decode cX9_kill 75 = .ok (.iload_n 3, 1) := by decide +kernel
theorem dX9_kill_76 : decode cX9_kill 76 = .ok (.baload, 1) := by decide +kernel
theorem dX9_kill_77 : decode cX9_kill 77 = .ok (.ireturn, 1) := by decide +kernel
set_option maxRecDepth 20000 in
theorem ggX9_setGap_X9_outside : GoodIn wsX9_setGap wsX9_outside := goodIn_r _ [9] (by decide +kernel) (by decide +kernel)
set_option maxRecDepth 20000 in
theorem gX9_setGap_X9_outside : GoodIn wsX9_setGap (va_wsS RX9 88 yX9_outside wsX9_outside) := goodIn_app (goodIn_of _ (by decide +kernel)) ggX9_setGap_X9_outside
theorem dX9_setGap_0 : decode cX9_setGap 0 = .ok (.iload_n 1, 1) := by decide +kernel
theorem dX9_setGap_1 : decode cX9_setGap 1 = .ok (.iconst 0, 1) := by decide +kernel
theorem dX9_setGap_2 : decode cX9_setGap 2 = .ok (.bipush 20, 2) := by decide +kernel
theorem dX9_setGap_4 : decode cX9_setGap 4 = .ok (.invokestatic 88, 3) := by decide +kernel
theorem dX9_setGap_7 : decode cX9_setGap 7 = .ok (.ifCond .eq 13, 3) := by decide +kernel
theorem dX9_setGap_10 : decode cX9_setGap 10 = .ok (.new 96, 3) := by decide +kernel
theorem dX9_setGap_13 : decode cX9_setGap 13 = .ok (.dup, 1) := by decide +kernel
theorem dX9_setGap_14 : decode cX9_setGap 14 = .ok (.ldc 183, 2) := by decide +kernel
theorem dX9_setGap_16 : decode cX9_setGap 16 = .ok (.invokespecial 100, 3) := by decide +kernel
theorem dX9_setGap_19 : decode cX9_setGap 19 = .ok (.athrow, 1) := by decide +kernel
theorem dX9_setGap_20 : decode cX9_setGap 20 = .ok (.aload_n 0, 1) := by decide +kernel
theorem dX9_setGap_21 : decode cX9_setGap 21 = .ok (.getfield 58, 3) := by decide +kernel
theorem dX9_setGap_24 : decode cX9_setGap 24 = .ok (.getfield 267, 3) := by decide +kernel
theorem dX9_setGap_27 : decode cX9_setGap 27 = .ok (.istore_n 2, 1) := by decide +kernel
theorem dX9_setGap_28 : decode cX9_setGap 28 = .ok (.aload_n 0, 1) := by decide +kernel
theorem dX9_setGap_29 : decode cX9_setGap 29 = .ok (.getfield 58, 3) := by decide +kernel
theorem dX9_setGap_32 : decode cX9_setGap 32 = .ok (.iload_n 1, 1) := by decide +kernel
theorem dX9_setGap_33 : decode cX9_setGap 33 = .ok (.putfield 267, 3) := by decide +kernel
theorem dX9_setGap_36 : decode cX9_setGap 36 = .ok (.aload_n 0, 1) := by decide +kernel
theorem dX9_setGap_37 : decode cX9_setGap 37 = .ok (.iconst 0, 1) := by decide +kernel
theorem dX9_setGap_38 : decode cX9_setGap 38 = .ok (.putfield 82, 3) := by decide +kernel
theorem dX9_setGap_41 : decode cX9_setGap 41 = .ok (.iload_n 2, 1) := by decide +kernel
theorem dX9_setGap_42 : decode cX9_setGap 42 = .ok (.ireturn, 1) := by decide +kernel
set_option maxRecDepth 20000 in
theorem ggX9_channelOf_X9_foundAndPlanned : GoodIn wsX9_channelOf wsX9_foundAndPlanned := goodIn_ca (goodIn_r _ [6, 7, 8, 9, 5, 10, 11, 12, 13, 14, 15, 16, 17, 18, 19, 20, 21, 22, 23, 24, 25, 26, 27, 28, 29, 30, 31, 32, 33, 34, 35, 36, 37, 38, 39, 40, 41, 42, 43, 44, 45, 46, 47, 48, 49, 50, 51, 52, 53, 54, 55, 56, 57, 58, 59, 60, 61, 62, 63, 64, 65, 66, 67, 68, 69, 70, 71, 72, 73, 74, 75, 76, 77, 78, 79, 80, 81, 82, 83, 84, 85, 86, 87, 88, 89, 90, 91, 92, 93, 94, 95, 96, 97, 98, 99, 100, 101, 102, 103, 104, 105, 106, 107, 108, 109, 1, 110, 111, 112, 113, 114, 115, 116, 117, 118, 119, 120, 121, 122, 123, 124, 125, 126, 127, 128, 129, 130, 131, 132, 133, 134, 135, 136, 137, 138, 148, 149, 150, 151, 152, 153, 154, 155, 156, 157, 158, 159, 160, 161, 162, 139, 140, 141, 142, 143, 144, 145, 146, 147, 163, 164, 165, 166, 167, 168, 169, 170, 171, 172, 173, 174, 175, 176, 177, 178, 179, 180, 181, 182, 183] (by decide +kernel) (by decide +kernel)) (goodIn_sub (fun _ h => List.mem_cons_of_mem _ (List.mem_append_right _ h)) (by decide +kernel))
set_option maxRecDepth 20000 in
theorem gX9_channelOf_X9_foundAndPlanned : GoodIn wsX9_channelOf (wsV RX9 185 RX9 yX9_foundAndPlanned wsX9_foundAndPlanned) := goodIn_app (goodIn_of _ (by decide +kernel)) ggX9_channelOf_X9_foundAndPlanned
theorem dX9_channelOf_0 : decode cX9_channelOf 0 = .ok (.aload_n 0, 1) := by decide +kernel
theorem dX9_channelOf_1 : decode cX9_channelOf 1 = .ok (.iload_n 1, 1) := by decide +kernel
theorem dX9_channelOf_2 : decode cX9_channelOf 2 = .ok (.invokevirtual 185, 3) := by decide +kernel
theorem dX9_channelOf_5 : decode cX9_channelOf 5 = .ok (.getfield 270, 3) := by decide +kernel
theorem dX9_channelOf_8 : decode cX9_channelOf 8 = .ok (.ireturn, 1) := by decide +kernel
set_option maxRecDepth 20000 in
theorem ggX9_cueOn_X9_outside : GoodIn wsX9_cueOn wsX9_outside := goodIn_r _ [8] (by decide +kernel) (by decide +kernel)
set_option maxRecDepth 20000 in
theorem gX9_cueOn_X9_outside : GoodIn wsX9_cueOn (va_wsS RX9 88 yX9_outside wsX9_outside) := goodIn_app (goodIn_of _ (by decide +kernel)) ggX9_cueOn_X9_outside
set_option maxRecDepth 20000 in
theorem ggX9_cueOn_X9_plan : GoodIn wsX9_cueOn wsX9_plan := goodIn_r _ [12, 13, 14, 15, 16, 17, 18, 7, 19, 20, 21, 22, 23, 24, 25, 26, 27, 28, 29, 30, 31, 32, 33, 34, 35, 36, 37, 38, 39, 40, 41, 42, 43, 44, 45, 46, 47, 48, 49, 50, 51, 52, 53, 54, 55, 56, 57, 58, 59, 60, 61, 62, 63, 64, 65, 66, 67, 68, 69, 70, 71, 72, 73, 74, 75, 76, 77, 78, 79, 80, 81, 82, 83, 84, 85, 86, 87, 88, 89, 90, 91, 92, 93, 94, 95, 96, 97, 98, 99, 100, 101, 102, 103, 104, 105, 106, 107, 108, 109, 110, 111, 112, 3, 113, 114, 115, 116, 117, 118, 119, 120, 121, 122, 123, 124, 125, 126, 127, 128, 129, 130, 131, 132, 133, 134, 135, 136, 137, 138, 139, 140, 141, 142, 143, 144, 145, 146, 151, 152, 153, 154, 155, 156, 157, 158, 159, 160, 161, 162, 163, 164, 165, 166, 167, 168, 169, 170, 171, 172, 173, 174, 175, 176, 147, 148, 149, 150] (by decide +kernel) (by decide +kernel)
set_option maxRecDepth 20000 in
theorem gX9_cueOn_X9_plan : GoodIn wsX9_cueOn (wsV RX9 250 RX9 yX9_plan wsX9_plan) := goodIn_app (goodIn_of _ (by decide +kernel)) ggX9_cueOn_X9_plan
theorem dX9_cueOn_0 : decode cX9_cueOn 0 = .ok (.iload_n 1, 1) := by decide +kernel
theorem dX9_cueOn_1 : decode cX9_cueOn 1 = .ok (.iconst 0, 1) := by decide +kernel
theorem dX9_cueOn_2 : decode cX9_cueOn 2 = .ok (.iconst 3, 1) := by decide +kernel
theorem dX9_cueOn_3 : decode cX9_cueOn 3 = .ok (.invokestatic 88, 3) := by decide +kernel
theorem dX9_cueOn_6 : decode cX9_cueOn 6 = .ok (.ifCond .ne 13, 3) := by decide +kernel
theorem dX9_cueOn_9 : decode cX9_cueOn 9 = .ok (.iload_n 2, 1) := by decide +kernel
theorem dX9_cueOn_10 : decode cX9_cueOn 10 = .ok (.iconst 0, 1) := by decide +kernel
theorem dX9_cueOn_11 : decode cX9_cueOn 11 = .ok (.bipush 7, 2) := by decide +kernel
theorem dX9_cueOn_13 : decode cX9_cueOn 13 = .ok (.invokestatic 88, 3) := by decide +kernel
theorem dX9_cueOn_16 : decode cX9_cueOn 16 = .ok (.ifCond .eq 14, 3) := by decide +kernel
theorem dX9_cueOn_19 : decode cX9_cueOn 19 = .ok (.new 96, 3) := by decide +kernel
theorem dX9_cueOn_22 : decode cX9_cueOn 22 = .ok (.dup, 1) := by decide +kernel
theorem dX9_cueOn_23 : decode cX9_cueOn 23 = .ok (.ldc_w 261, 3) := by decide +kernel
theorem dX9_cueOn_26 : decode cX9_cueOn 26 = .ok (.invokespecial 100, 3) := by decide +kernel
theorem dX9_cueOn_29 : decode cX9_cueOn 29 = .ok (.athrow, 1) := by decide +kernel
theorem dX9_cueOn_30 : decode cX9_cueOn 30 = .ok (.aload_n 0, 1) := by decide +kernel
theorem dX9_cueOn_31 : decode cX9_cueOn 31 = .ok (.invokevirtual 250, 3) := by decide +kernel
theorem dX9_cueOn_34 : decode cX9_cueOn 34 = .ok (.aload_n 0, 1) := by decide +kernel
theorem dX9_cueOn_35 : decode cX9_cueOn 35 = .ok (.getfield 58, 3) := by decide +kernel
theorem dX9_cueOn_38 : decode cX9_cueOn 38 = .ok (.getfield 273, 3) := by decide +kernel
theorem dX9_cueOn_41 : decode cX9_cueOn 41 = .ok (.bipush 8, 2) := by decide +kernel
theorem dX9_cueOn_43 : decode cX9_cueOn 43 = .ok (.iload_n 1, 1) := by decide +kernel
theorem dX9_cueOn_44 : decode cX9_cueOn 44 = .ok (.imul, 1) := by decide +kernel
theorem dX9_cueOn_45 : decode cX9_cueOn 45 = .ok (.iload_n 2, 1) := by decide +kernel
theorem dX9_cueOn_46 : decode cX9_cueOn 46 = .ok (.iadd, 1) := by decide +kernel
theorem dX9_cueOn_47 : decode cX9_cueOn 47 = .ok (.iaload, 1) := by decide +kernel
theorem dX9_cueOn_48 : decode cX9_cueOn 48 = .ok (.ireturn, 1) := by decide +kernel
set_option maxRecDepth 20000 in
theorem ggX9_spares_X9_plan : GoodIn wsX9_spares wsX9_plan := goodIn_r _ [6, 7, 8, 9, 10, 11, 12, 5, 13, 14, 15, 16, 17, 18, 19, 20, 21, 22, 23, 24, 25, 26, 27, 28, 29, 30, 31, 32, 33, 34, 35, 36, 37, 38, 39, 40, 41, 42, 43, 44, 45, 46, 47, 48, 49, 50, 51, 52, 53, 54, 55, 56, 57, 58, 59, 60, 61, 62, 63, 64, 65, 66, 67, 68, 69, 70, 71, 72, 73, 74, 75, 76, 77, 78, 79, 80, 81, 82, 83, 84, 85, 86, 87, 88, 89, 90, 91, 92, 93, 94, 95, 96, 97, 98, 99, 100, 101, 102, 103, 104, 105, 106, 1, 107, 108, 109, 110, 111, 112, 113, 114, 115, 116, 117, 118, 119, 120, 121, 122, 123, 124, 125, 130, 131, 132, 133, 134, 135, 136, 137, 138, 139, 140, 141, 142, 143, 144, 145, 146, 147, 148, 149, 150, 151, 152, 153, 154, 155, 156, 157, 158, 159, 160, 161, 162, 163, 164, 165, 166, 167, 168, 169, 170, 171, 172, 173, 174] (by decide +kernel) (by decide +kernel)
set_option maxRecDepth 20000 in
theorem gX9_spares_X9_plan : GoodIn wsX9_spares (wsV RX9 250 RX9 yX9_plan wsX9_plan) := goodIn_app (goodIn_of _ (by decide +kernel)) ggX9_spares_X9_plan
set_option maxRecDepth 20000 in
theorem ggX9_spares_X1_sparesGiven : GoodIn wsX9_spares wsX1_sparesGiven := goodIn_r _ [129, 113, 171, 172, 173, 174] (by decide +kernel) (by decide +kernel)
set_option maxRecDepth 20000 in
theorem gX9_spares_X1_sparesGiven : GoodIn wsX9_spares (wsV RX9 276 RX1 yX1_sparesGiven wsX1_sparesGiven) := goodIn_app (goodIn_of _ (by decide +kernel)) ggX9_spares_X1_sparesGiven
theorem dX9_spares_0 : decode cX9_spares 0 = .ok (.aload_n 0, 1) := by decide +kernel
theorem dX9_spares_1 : decode cX9_spares 1 = .ok (.invokevirtual 250, 3) := by decide +kernel
theorem dX9_spares_4 : decode cX9_spares 4 = .ok (.aload_n 0, 1) := by decide +kernel
theorem dX9_spares_5 : decode cX9_spares 5 = .ok (.getfield 58, 3) := by decide +kernel
theorem dX9_spares_8 : decode cX9_spares 8 = .ok (.invokevirtual 276, 3) := by decide +kernel
theorem dX9_spares_11 : decode cX9_spares 11 = .ok (.ireturn, 1) := by decide +kernel
set_option maxRecDepth 20000 in
theorem ggX9_setRate_X9_outside : GoodIn wsX9_setRate wsX9_outside := goodIn_r _ [8] (by decide +kernel) (by decide +kernel)
set_option maxRecDepth 20000 in
theorem gX9_setRate_X9_outside : GoodIn wsX9_setRate (va_wsS RX9 88 yX9_outside wsX9_outside) := goodIn_app (goodIn_of _ (by decide +kernel)) ggX9_setRate_X9_outside
theorem dX9_setRate_0 : decode cX9_setRate 0 = .ok (.iload_n 1, 1) := by decide +kernel
theorem dX9_setRate_1 : decode cX9_setRate 1 = .ok (.iconst 0, 1) := by decide +kernel
theorem dX9_setRate_2 : decode cX9_setRate 2 = .ok (.bipush 9, 2) := by decide +kernel
theorem dX9_setRate_4 : decode cX9_setRate 4 = .ok (.invokestatic 88, 3) := by decide +kernel
theorem dX9_setRate_7 : decode cX9_setRate 7 = .ok (.ifCond .ne 14, 3) := by decide +kernel
theorem dX9_setRate_10 : decode cX9_setRate 10 = .ok (.iload_n 2, 1) := by decide +kernel
theorem dX9_setRate_11 : decode cX9_setRate 11 = .ok (.iconst 0, 1) := by decide +kernel
theorem dX9_setRate_12 : decode cX9_setRate 12 = .ok (.ldc_w 280, 3) := by decide +kernel
theorem dX9_setRate_15 : decode cX9_setRate 15 = .ok (.invokestatic 88, 3) := by decide +kernel
theorem dX9_setRate_18 : decode cX9_setRate 18 = .ok (.ifCond .eq 14, 3) := by decide +kernel
theorem dX9_setRate_21 : decode cX9_setRate 21 = .ok (.new 96, 3) := by decide +kernel
theorem dX9_setRate_24 : decode cX9_setRate 24 = .ok (.dup, 1) := by decide +kernel
theorem dX9_setRate_25 : decode cX9_setRate 25 = .ok (.ldc_w 281, 3) := by decide +kernel
theorem dX9_setRate_28 : decode cX9_setRate 28 = .ok (.invokespecial 100, 3) := by decide +kernel
theorem dX9_setRate_31 : decode cX9_setRate 31 = .ok (.athrow, 1) := by decide +kernel
theorem dX9_setRate_32 : decode cX9_setRate 32 = .ok (.aload_n 0, 1) := by decide +kernel
theorem dX9_setRate_33 : decode cX9_setRate 33 = .ok (.getfield 65, 3) := by decide +kernel
theorem dX9_setRate_36 : decode cX9_setRate 36 = .ok (.iload_n 1, 1) := by decide +kernel
theorem dX9_setRate_37 : decode cX9_setRate 37 = .ok (.iaload, 1) := by decide +kernel
theorem dX9_setRate_38 : decode cX9_setRate 38 = .ok (.istore_n 3, 1) := by decide +kernel
theorem dX9_setRate_39 : decode cX9_setRate 39 = .ok (.aload_n 0, 1) := by decide +kernel
theorem dX9_setRate_40 : decode cX9_setRate 40 = .ok (.getfield 65, 3) := by decide +kernel
theorem dX9_setRate_43 : decode cX9_setRate 43 = .ok (.iload_n 1, 1) := by decide +kernel
theorem dX9_setRate_44 : decode cX9_setRate 44 = .ok (.iload_n 2, 1) := by decide +kernel
theorem dX9_setRate_45 : decode cX9_setRate 45 = .ok (.iastore, 1) := by decide +kernel
theorem dX9_setRate_46 : decode cX9_setRate 46 = .ok (.iload_n 3, 1) := by decide +kernel
theorem dX9_setRate_47 : decode cX9_setRate 47 = .ok (.ireturn, 1) := by decide +kernel
set_option maxRecDepth 20000 in
theorem ggX9_price_X9_foundAndPlanned : GoodIn wsX9_price wsX9_foundAndPlanned := goodIn_ca (goodIn_r _ [6, 7, 8, 9, 5, 10, 11, 12, 13, 14, 15, 16, 17, 18, 19, 20, 21, 22, 23, 24, 25, 26, 27, 28, 29, 30, 1, 31, 32, 33, 34, 35, 36, 37, 38, 39, 40, 41, 42, 43, 44, 45, 46, 47, 48, 49, 50, 51, 52, 53, 54, 55, 56, 57, 58, 59, 60, 61, 62, 63, 64, 65, 66, 67, 68, 69, 70, 71, 72, 73, 74, 75, 76, 77, 78, 79, 80, 81, 82, 83, 84, 85, 86, 87, 88, 89, 90, 91, 92, 93, 94, 95, 96, 97, 98, 99, 100, 101, 102, 103, 104, 105, 106, 107, 108, 109, 110, 111, 112, 113, 114, 115, 116, 117, 118, 119, 120, 121, 122, 123, 124, 125, 126, 127, 128, 129, 130, 131, 132, 133, 134, 135, 136, 137, 138, 162, 163, 164, 165, 166, 167, 168, 169, 170, 171, 172, 173, 174, 175, 176, 153, 154, 155, 156, 157, 158, 159, 160, 161, 177, 178, 179, 180, 181, 182, 183, 184, 185, 186, 187, 188, 189, 190, 191, 192, 193, 194, 195, 196, 197] (by decide +kernel) (by decide +kernel)) (goodIn_sub (fun _ h => List.mem_cons_of_mem _ (List.mem_append_right _ h)) (by decide +kernel))
set_option maxRecDepth 20000 in
theorem gX9_price_X9_foundAndPlanned : GoodIn wsX9_price (wsV RX9 185 RX9 yX9_foundAndPlanned wsX9_foundAndPlanned) := goodIn_app (goodIn_of _ (by decide +kernel)) ggX9_price_X9_foundAndPlanned
set_option maxRecDepth 20000 in
theorem ggX9_price_X9_priceOf : GoodIn wsX9_price wsX9_priceOf := goodIn_r _ [142, 108, 77, 78, 75, 79, 73, 74, 76, 27, 30, 143, 144, 145, 146, 34, 147, 148, 153, 154, 155, 156, 157, 158, 159, 160, 161, 162, 163, 164, 165, 166, 167, 168, 169, 170, 171, 172, 173, 174, 175, 176, 184, 185] (by decide +kernel) (by decide +kernel)
set_option maxRecDepth 20000 in
theorem gX9_price_X9_priceOf : GoodIn wsX9_price (wsV RX9 283 RX9 yX9_priceOf wsX9_priceOf) := goodIn_app (goodIn_of _ (by decide +kernel)) ggX9_price_X9_priceOf
set_option maxRecDepth 20000 in
theorem ggX9_price_X9_refusedOver : GoodIn wsX9_price wsX9_refusedOver := goodIn_r _ [151, 152] (by decide +kernel) (by decide +kernel)
set_option maxRecDepth 20000 in
theorem gX9_price_X9_refusedOver : GoodIn wsX9_price (va_wsS RX9 287 yX9_refusedOver wsX9_refusedOver) := goodIn_app (goodIn_of _ (by decide +kernel)) ggX9_price_X9_refusedOver
theorem dX9_price_0 : decode cX9_price 0 = .ok (.aload_n 0, 1) := by decide +kernel
theorem dX9_price_1 : decode cX9_price 1 = .ok (.iload_n 1, 1) := by decide +kernel
theorem dX9_price_2 : decode cX9_price 2 = .ok (.invokevirtual 185, 3) := by decide +kernel
theorem dX9_price_5 : decode cX9_price 5 = .ok (.astore_n 2, 1) := by decide +kernel
theorem dX9_price_6 : decode cX9_price 6 = .ok (.aload_n 2, 1) := by decide +kernel
theorem dX9_price_7 : decode cX9_price 7 = .ok (.getfield 188, 3) := by decide +kernel
theorem dX9_price_10 : decode cX9_price 10 = .ok (.ifCond .ne 14, 3) := by decide +kernel
theorem dX9_price_13 : decode cX9_price 13 = .ok (.aload_n 0, 1) := by decide +kernel
theorem dX9_price_14 : decode cX9_price 14 = .ok (.aload_n 2, 1) := by decide +kernel
theorem dX9_price_15 : decode cX9_price 15 = .ok (.invokevirtual 283, 3) := by decide +kernel
theorem dX9_price_18 : decode cX9_price 18 = .ok (.invokestatic 287, 3) := by decide +kernel
theorem dX9_price_21 : decode cX9_price 21 = .ok (.goto 4, 3) := by decide +kernel
theorem dX9_price_24 : decode cX9_price 24 = .ok (.iconst (-1), 1) := by decide +kernel
theorem dX9_price_25 : decode cX9_price 25 = .ok (.ireturn, 1) := by decide +kernel
set_option maxRecDepth 20000 in
theorem ggX9_total_X9_plan : GoodIn wsX9_total wsX9_plan := goodIn_r _ [7, 8, 9, 10, 11, 12, 13, 6, 14, 15, 16, 17, 18, 19, 20, 21, 22, 23, 24, 25, 26, 27, 28, 29, 30, 31, 32, 33, 34, 35, 36, 37, 38, 39, 40, 41, 42, 43, 44, 45, 46, 47, 48, 49, 50, 51, 52, 53, 54, 55, 56, 57, 58, 59, 60, 61, 62, 63, 64, 65, 66, 67, 68, 69, 70, 71, 72, 73, 74, 75, 76, 77, 78, 79, 80, 81, 82, 83, 84, 85, 86, 87, 88, 89, 90, 1, 91, 92, 93, 94, 95, 96, 97, 98, 99, 100, 101, 2, 102, 103, 104, 105, 106, 107, 108, 109, 110, 111, 112, 113, 114, 115, 116, 117, 118, 119, 120, 121, 122, 123, 124, 125, 140, 141, 142, 143, 144, 145, 146, 147, 148, 149, 150, 151, 152, 153, 154, 155, 156, 157, 158, 159, 160, 161, 162, 163, 164, 165, 166, 167, 168, 169, 170, 171, 172, 173, 174, 175, 176, 177, 178, 179, 180, 181, 182, 183, 184] (by decide +kernel) (by decide +kernel)
set_option maxRecDepth 20000 in
theorem gX9_total_X9_plan : GoodIn wsX9_total (wsV RX9 250 RX9 yX9_plan wsX9_plan) := goodIn_app (goodIn_of _ (by decide +kernel)) ggX9_total_X9_plan
set_option maxRecDepth 20000 in
theorem ggX9_total_X9_priceOf : GoodIn wsX9_total wsX9_priceOf := goodIn_r _ [129, 96, 66, 67, 64, 68, 62, 63, 65, 15, 18, 130, 131, 132, 133, 23, 134, 135, 155, 156, 157, 158, 159, 160, 161, 162, 163, 140, 141, 142, 143, 144, 145, 146, 147, 148, 149, 150, 151, 152, 153, 154, 171, 172] (by decide +kernel) (by decide +kernel)
set_option maxRecDepth 20000 in
theorem gX9_total_X9_priceOf : GoodIn wsX9_total (wsV RX9 283 RX9 yX9_priceOf wsX9_priceOf) := goodIn_app (goodIn_of _ (by decide +kernel)) ggX9_total_X9_priceOf
set_option maxRecDepth 20000 in
theorem ggX9_total_X9_refusedOver : GoodIn wsX9_total wsX9_refusedOver := goodIn_r _ [138, 139] (by decide +kernel) (by decide +kernel)
set_option maxRecDepth 20000 in
theorem gX9_total_X9_refusedOver : GoodIn wsX9_total (va_wsS RX9 287 yX9_refusedOver wsX9_refusedOver) := goodIn_app (goodIn_of _ (by decide +kernel)) ggX9_total_X9_refusedOver
theorem dX9_total_0 : decode cX9_total 0 = .ok (.aload_n 0, 1) := by decide +kernel
theorem dX9_total_1 : decode cX9_total 1 = .ok (.invokevirtual 250, 3) := by decide +kernel
theorem dX9_total_4 : decode cX9_total 4 = .ok (.lconst 0, 1) := by decide +kernel
theorem dX9_total_5 : decode cX9_total 5 = .ok (.lstore_n 1, 1) := by decide +kernel
theorem dX9_total_6 : decode cX9_total 6 = .ok (.iconst 0, 1) := by decide +kernel
theorem dX9_total_7 : decode cX9_total 7 = .ok (.istore_n 3, 1) := by decide +kernel
theorem dX9_total_8 : decode cX9_total 8 = .ok (.iload_n 3, 1) := by decide +kernel
theorem dX9_total_9 : decode cX9_total 9 = .ok (.aload_n 0, 1) := by decide +kernel
theorem dX9_total_10 : decode cX9_total 10 = .ok (.getfield 76, 3) := by decide +kernel
theorem dX9_total_13 : decode cX9_total 13 = .ok (.if_icmp .ge 22, 3) := by decide +kernel
theorem dX9_total_16 : decode cX9_total 16 = .ok (.lload_n 1, 1) := by decide +kernel
theorem dX9_total_17 : decode cX9_total 17 = .ok (.aload_n 0, 1) := by decide +kernel
theorem dX9_total_18 : decode cX9_total 18 = .ok (.aload_n 0, 1) := by decide +kernel
theorem dX9_total_19 : decode cX9_total 19 = .ok (.getfield 62, 3) := by decide +kernel
theorem dX9_total_22 : decode cX9_total 22 = .ok (.iload_n 3, 1) := by decide +kernel
theorem dX9_total_23 : decode cX9_total 23 = .ok (.aaload, 1) := by decide +kernel
theorem dX9_total_24 : decode cX9_total 24 = .ok (.invokevirtual 283, 3) := by decide +kernel
theorem dX9_total_27 : decode cX9_total 27 = .ok (.ladd, 1) := by decide +kernel
theorem dX9_total_28 : decode cX9_total 28 = .ok (.lstore_n 1, 1) := by decide +kernel
theorem dX9_total_29 : decode cX9_total 29 = .ok (.iinc 3 1, 3) := by decide +kernel
theorem dX9_total_32 : decode cX9_total 32 = .ok (.goto (-24), 3) := by decide +kernel
theorem dX9_total_35 : decode cX9_total 35 = .ok (.lload_n 1, 1) := by decide +kernel
theorem dX9_total_36 : decode cX9_total 36 = .ok (.invokestatic 287, 3) := by decide +kernel
theorem dX9_total_39 : decode cX9_total 39 = .ok (.ireturn, 1) := by decide +kernel
theorem dX9_outside_0 : decode cX9_outside 0 = .ok (.iload_n 0, 1) := by decide +kernel
theorem dX9_outside_1 : decode cX9_outside 1 = .ok (.iload_n 1, 1) := by decide +kernel
theorem dX9_outside_2 : decode cX9_outside 2 = .ok (.if_icmp .lt 8, 3) := by decide +kernel
theorem dX9_outside_5 : decode cX9_outside 5 = .ok (.iload_n 0, 1) := by decide +kernel
theorem dX9_outside_6 : decode cX9_outside 6 = .ok (.iload_n 2, 1) := by decide +kernel
theorem dX9_outside_7 : decode cX9_outside 7 = .ok (.if_icmp .le 7, 3) := by decide +kernel
theorem dX9_outside_10 : decode cX9_outside 10 = .ok (.iconst 1, 1) := by decide +kernel
theorem dX9_outside_11 : decode cX9_outside 11 = .ok (.goto 4, 3) := by decide +kernel
theorem dX9_outside_14 : decode cX9_outside 14 = .ok (.iconst 0, 1) := by decide +kernel
theorem dX9_outside_15 : decode cX9_outside 15 = .ok (.ireturn, 1) := by decide +kernel
set_option maxRecDepth 20000 in
theorem ggX9_offGround_X9_outside : GoodIn wsX9_offGround wsX9_outside := goodIn_r _ [4] (by decide +kernel) (by decide +kernel)
set_option maxRecDepth 20000 in
theorem gX9_offGround_X9_outside : GoodIn wsX9_offGround (va_wsS RX9 88 yX9_outside wsX9_outside) := goodIn_app (goodIn_of _ (by decide +kernel)) ggX9_offGround_X9_outside
theorem dX9_offGround_0 : decode cX9_offGround 0 = .ok (.iload_n 0, 1) := by decide +kernel
theorem dX9_offGround_1 : decode cX9_offGround 1 = .ok (.iconst 0, 1) := by decide +kernel
theorem dX9_offGround_2 : decode cX9_offGround 2 = .ok (.bipush 7, 2) := by decide +kernel
theorem dX9_offGround_4 : decode cX9_offGround 4 = .ok (.invokestatic 88, 3) := by decide +kernel
theorem dX9_offGround_7 : decode cX9_offGround 7 = .ok (.ifCond .ne 13, 3) := by decide +kernel
theorem dX9_offGround_10 : decode cX9_offGround 10 = .ok (.iload_n 1, 1) := by decide +kernel
theorem dX9_offGround_11 : decode cX9_offGround 11 = .ok (.iconst 0, 1) := by decide +kernel
theorem dX9_offGround_12 : decode cX9_offGround 12 = .ok (.bipush 7, 2) := by decide +kernel
theorem dX9_offGround_14 : decode cX9_offGround 14 = .ok (.invokestatic 88, 3) := by decide +kernel
theorem dX9_offGround_17 : decode cX9_offGround 17 = .ok (.ifCond .eq 7, 3) := by decide +kernel
theorem dX9_offGround_20 : decode cX9_offGround 20 = .ok (.iconst 1, 1) := by decide +kernel
theorem dX9_offGround_21 : decode cX9_offGround 21 = .ok (.goto 4, 3) := by decide +kernel
theorem dX9_offGround_24 : decode cX9_offGround 24 = .ok (.iconst 0, 1) := by decide +kernel
theorem dX9_offGround_25 : decode cX9_offGround 25 = .ok (.ireturn, 1) := by decide +kernel
theorem dX9_zoneOf_0 : decode cX9_zoneOf 0 = .ok (.bipush 8, 2) := by decide +kernel
theorem dX9_zoneOf_2 : decode cX9_zoneOf 2 = .ok (.iload_n 1, 1) := by decide +kernel
theorem dX9_zoneOf_3 : decode cX9_zoneOf 3 = .ok (.imul, 1) := by decide +kernel
theorem dX9_zoneOf_4 : decode cX9_zoneOf 4 = .ok (.iload_n 0, 1) := by decide +kernel
theorem dX9_zoneOf_5 : decode cX9_zoneOf 5 = .ok (.iadd, 1) := by decide +kernel
theorem dX9_zoneOf_6 : decode cX9_zoneOf 6 = .ok (.ireturn, 1) := by decide +kernel
set_option maxRecDepth 20000 in
theorem ggX9_placeTold_J9_floorDiv_7cf53 : GoodIn wsX9_placeTold wsJ9_floorDiv_7cf53 := goodIn_r _ [4] (by decide +kernel) (by decide +kernel)
set_option maxRecDepth 20000 in
theorem gX9_placeTold_J9_floorDiv_7cf53 : GoodIn wsX9_placeTold (va_wsS RX9 290 yJ9_floorDiv_7cf53 wsJ9_floorDiv_7cf53) := goodIn_app (goodIn_of _ (by decide +kernel)) ggX9_placeTold_J9_floorDiv_7cf53
theorem dX9_placeTold_0 : decode cX9_placeTold 0 = .ok (.iload_n 0, 1) := by decide +kernel
theorem dX9_placeTold_1 : decode cX9_placeTold 1 = .ok (.tableswitch 38 0 2 #[27, 29, 31], 27) := by decide +kernel
theorem dX9_placeTold_28 : decode cX9_placeTold 28 = .ok (.iload_n 1, 1) := by decide +kernel
theorem dX9_placeTold_29 : decode cX9_placeTold 29 = .ok (.ireturn, 1) := by decide +kernel
theorem dX9_placeTold_30 : decode cX9_placeTold 30 = .ok (.iload_n 2, 1) := by decide +kernel
theorem dX9_placeTold_31 : decode cX9_placeTold 31 = .ok (.ireturn, 1) := by decide +kernel
theorem dX9_placeTold_32 : decode cX9_placeTold 32 = .ok (.iload_n 1, 1) := by decide +kernel
theorem dX9_placeTold_33 : decode cX9_placeTold 33 = .ok (.bipush 100, 2) := by decide +kernel
theorem dX9_placeTold_35 : decode cX9_placeTold 35 = .ok (.invokestatic 290, 3) := by decide +kernel
theorem dX9_placeTold_38 : decode cX9_placeTold 38 = .ok (.ireturn, 1) := by decide +kernel
theorem dX9_placeTold_39 : decode cX9_placeTold 39 = .ok (.iload_n 2, 1) := by decide +kernel
theorem dX9_placeTold_40 : decode cX9_placeTold 40 = .ok (.bipush 100, 2) := by decide +kernel
theorem dX9_placeTold_42 : decode cX9_placeTold 42 = .ok (.invokestatic 290, 3) := by decide +kernel
theorem dX9_placeTold_45 : decode cX9_placeTold 45 = .ok (.ireturn, 1) := by decide +kernel
set_option maxRecDepth 20000 in
theorem ggX9_found_X9_outside : GoodIn wsX9_found wsX9_outside := goodIn_r _ [7] (by decide +kernel) (by decide +kernel)
set_option maxRecDepth 20000 in
theorem gX9_found_X9_outside : GoodIn wsX9_found (va_wsS RX9 88 yX9_outside wsX9_outside) := goodIn_app (goodIn_of _ (by decide +kernel)) ggX9_found_X9_outside
theorem dX9_found_0 : decode cX9_found 0 = .ok (.iload_n 1, 1) := by decide +kernel
theorem dX9_found_1 : decode cX9_found 1 = .ok (.iconst 0, 1) := by decide +kernel
theorem dX9_found_2 : decode cX9_found 2 = .ok (.bipush 39, 2) := by decide +kernel
theorem dX9_found_4 : decode cX9_found 4 = .ok (.invokestatic 88, 3) := by decide +kernel
theorem dX9_found_7 : decode cX9_found 7 = .ok (.ifCond .ne 12, 3) := by decide +kernel
theorem dX9_found_10 : decode cX9_found 10 = .ok (.aload_n 0, 1) := by decide +kernel
theorem dX9_found_11 : decode cX9_found 11 = .ok (.getfield 44, 3) := by decide +kernel
theorem dX9_found_14 : decode cX9_found 14 = .ok (.iload_n 1, 1) := by decide +kernel
theorem dX9_found_15 : decode cX9_found 15 = .ok (.aaload, 1) := by decide +kernel
theorem dX9_found_16 : decode cX9_found 16 = .ok (.ifnonnull 14, 3) := by decide +kernel
theorem dX9_found_19 : decode cX9_found 19 = .ok (.new 253, 3) := by decide +kernel
theorem dX9_found_22 : decode cX9_found 22 = .ok (.dup, 1) := by decide +kernel
theorem dX9_found_23 : decode cX9_found 23 = .ok (.ldc_w 295, 3) := by decide +kernel
theorem dX9_found_26 : decode cX9_found 26 = .ok (.invokespecial 257, 3) := by decide +kernel
theorem dX9_found_29 : decode cX9_found 29 = .ok (.athrow, 1) := by decide +kernel
