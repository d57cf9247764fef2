theorem lwc_wsX70 : ∀ w ∈ wsX70, w ∈ lw_tbl := mem_places [179, 181] (by decide +kernel)
theorem lwc_wsX60 : ∀ w ∈ wsX60, w ∈ lw_tbl := mem_places [230, 232, 234, 236, 238, 240, 242] (by decide +kernel)
theorem lwc_wsX50 : ∀ w ∈ wsX50, w ∈ lw_tbl := mem_places [100, 102, 104, 106, 108] (by decide +kernel)
theorem lwc_wsX20 : ∀ w ∈ wsX20, w ∈ lw_tbl := mem_places [703, 705, 707, 709, 711, 713, 715, 717, 719] (by decide +kernel)
theorem wsL_law_in0 : ∀ w ∈ wsL_law0, w ∈ lw_tbl := fun w h => (List.mem_append.mp h).elim (fun h => (List.mem_append.mp h).elim (fun h => (List.mem_append.mp h).elim (fun h => (List.mem_append.mp h).elim (fun h => (List.mem_append.mp h).elim (fun h => (List.mem_append.mp h).elim (fun h => (List.mem_append.mp h).elim (fun h => (List.mem_append.mp h).elim (fun h => (List.mem_append.mp h).elim (fun h => (List.mem_append.mp h).elim (fun h => (List.mem_append.mp h).elim (fun h => (List.mem_append.mp h).elim (fun h => wsL_law0_r1_in w h) (fun h => (List.mem_append.mp h).elim (fun h => wsL_law0_r2_in w h) (fun h => (List.mem_append.mp h).elim (fun h => wsL_law0_r3_in w h) (fun h => (List.mem_append.mp h).elim (fun h => wsL_law0_r4_in w h) (fun h => (List.mem_append.mp h).elim (fun h => wsL_law0_r5_in w h) (fun h => (List.mem_append.mp h).elim (fun h => wsL_law0_r6_in w h) (fun h => (List.mem_append.mp h).elim (fun h => wsL_law0_r7_in w h) (fun h => (List.mem_append.mp h).elim (fun h => wsL_law0_r8_in w h) (fun h => (List.mem_append.mp h).elim (fun h => wsL_law0_r9_in w h) (fun h => (List.mem_append.mp h).elim (fun h => wsL_law0_r10_in w h) (fun h => (List.mem_append.mp h).elim (fun h => wsL_law0_r11_in w h) (fun h => (List.mem_append.mp h).elim (fun h => wsL_law0_r12_in w h) (fun h => (List.mem_append.mp h).elim (fun h => wsL_law0_r13_in w h) (fun h => (List.mem_append.mp h).elim (fun h => wsL_law0_r14_in w h) (fun h => (List.mem_append.mp h).elim (fun h => wsL_law0_r15_in w h) (fun h => (List.mem_append.mp h).elim (fun h => wsL_law0_r16_in w h) (fun h => (List.mem_append.mp h).elim (fun h => wsL_law0_r17_in w h) (fun h => (List.mem_append.mp h).elim (fun h => wsL_law0_r18_in w h) (fun h => (List.mem_append.mp h).elim (fun h => wsL_law0_r19_in w h) (fun h => (List.mem_append.mp h).elim (fun h => wsL_law0_r20_in w h) (fun h => (List.mem_append.mp h).elim (fun h => wsL_law0_r21_in w h) (fun h => (List.mem_append.mp h).elim (fun h => wsL_law0_r22_in w h) (fun h => (List.mem_append.mp h).elim (fun h => wsL_law0_r23_in w h) (fun h => wsL_law0_r24_in w h)))))))))))))))))))))))) (fun h => lwc_wsX90 w h)) (fun h => lwc_wsX40 w h)) (fun h => lwc_wsX80 w h)) (fun h => lwc_wsX30 w h)) (fun h => lwc_wsX00 w h)) (fun h => lwc_wsX10 w h)) (fun h => lwc_wsX70 w h)) (fun h => lwc_wsX60 w h)) (fun h => lwc_wsX50 w h)) (fun h => lwc_wsX20 w h)) (fun h => (nomatch h))
theorem wsL_law_x0 : ∀ w ∈ (vx_atS RX9 100 "java/lang/IllegalArgumentException" ["java/lang/RuntimeException", "java/lang/Exception"]).filter goodWord, w ∈ lw_tbl := by decide +kernel
theorem wsL_law_x1 : ∀ w ∈ (vx_atS RX9 172 "java/lang/IllegalStateException" ["java/lang/RuntimeException", "java/lang/Exception"]).filter goodWord, w ∈ lw_tbl := by decide +kernel
theorem wsL_law_x2 : ∀ w ∈ (vx_atS RX9 257 "java/lang/IndexOutOfBoundsException" ["java/lang/RuntimeException", "java/lang/Exception"]).filter goodWord, w ∈ lw_tbl := by decide +kernel
theorem wsL_law_in : ∀ w ∈ wsL_law, w ∈ lw_tbl := fun w h => (List.mem_append.mp h).elim (fun h => (List.mem_append.mp h).elim (fun h => (List.mem_append.mp h).elim (fun h => wsL_law_in0 w h) (fun h => wsL_law_x0 w h)) (fun h => wsL_law_x1 w h)) (fun h => wsL_law_x2 w h)
theorem inlX0 : ∀ w ∈ wsX00, w ∈ wsL_law := fun _ h => List.mem_append_left _ (List.mem_append_left _ (List.mem_append_left _ (List.mem_append_left _ (List.mem_append_left _ (List.mem_append_left _ (List.mem_append_left _ (List.mem_append_left _ (List.mem_append_left _ (List.mem_append_right _ h)))))))))
theorem inX0 : ∀ w ∈ wsX00, w ∈ lw_tbl := fun w h => wsL_law_in w (inlX0 w h)
theorem inlX1 : ∀ w ∈ wsX10, w ∈ wsL_law := fun _ h => List.mem_append_left _ (List.mem_append_left _ (List.mem_append_left _ (List.mem_append_left _ (List.mem_append_left _ (List.mem_append_left _ (List.mem_append_left _ (List.mem_append_left _ (List.mem_append_right _ h))))))))
theorem inX1 : ∀ w ∈ wsX10, w ∈ lw_tbl := fun w h => wsL_law_in w (inlX1 w h)
theorem inlX2 : ∀ w ∈ wsX20, w ∈ wsL_law := fun _ h => List.mem_append_left _ (List.mem_append_left _ (List.mem_append_left _ (List.mem_append_left _ (List.mem_append_right _ h))))
theorem inX2 : ∀ w ∈ wsX20, w ∈ lw_tbl := fun w h => wsL_law_in w (inlX2 w h)
theorem inlX3 : ∀ w ∈ wsX30, w ∈ wsL_law := fun _ h => List.mem_append_left _ (List.mem_append_left _ (List.mem_append_left _ (List.mem_append_left _ (List.mem_append_left _ (List.mem_append_left _ (List.mem_append_left _ (List.mem_append_left _ (List.mem_append_left _ (List.mem_append_left _ (List.mem_append_right _ h))))))))))
theorem inX3 : ∀ w ∈ wsX30, w ∈ lw_tbl := fun w h => wsL_law_in w (inlX3 w h)
theorem inlX4 : ∀ w ∈ wsX40, w ∈ wsL_law := fun _ h => List.mem_append_left _ (List.mem_append_left _ (List.mem_append_left _ (List.mem_append_left _ (List.mem_append_left _ (List.mem_append_left _ (List.mem_append_left _ (List.mem_append_left _ (List.mem_append_left _ (List.mem_append_left _ (List.mem_append_left _ (List.mem_append_left _ (List.mem_append_right _ h))))))))))))
theorem inX4 : ∀ w ∈ wsX40, w ∈ lw_tbl := fun w h => wsL_law_in w (inlX4 w h)
theorem inlX5 : ∀ w ∈ wsX50, w ∈ wsL_law := fun _ h => List.mem_append_left _ (List.mem_append_left _ (List.mem_append_left _ (List.mem_append_left _ (List.mem_append_left _ (List.mem_append_right _ h)))))
theorem inX5 : ∀ w ∈ wsX50, w ∈ lw_tbl := fun w h => wsL_law_in w (inlX5 w h)
theorem inlX6 : ∀ w ∈ wsX60, w ∈ wsL_law := fun _ h => List.mem_append_left _ (List.mem_append_left _ (List.mem_append_left _ (List.mem_append_left _ (List.mem_append_left _ (List.mem_append_left _ (List.mem_append_right _ h))))))
theorem inX6 : ∀ w ∈ wsX60, w ∈ lw_tbl := fun w h => wsL_law_in w (inlX6 w h)
theorem inlX7 : ∀ w ∈ wsX70, w ∈ wsL_law := fun _ h => List.mem_append_left _ (List.mem_append_left _ (List.mem_append_left _ (List.mem_append_left _ (List.mem_append_left _ (List.mem_append_left _ (List.mem_append_left _ (List.mem_append_right _ h)))))))
theorem inX7 : ∀ w ∈ wsX70, w ∈ lw_tbl := fun w h => wsL_law_in w (inlX7 w h)
theorem inlX8 : ∀ w ∈ wsX80, w ∈ wsL_law := fun _ h => List.mem_append_left _ (List.mem_append_left _ (List.mem_append_left _ (List.mem_append_left _ (List.mem_append_left _ (List.mem_append_left _ (List.mem_append_left _ (List.mem_append_left _ (List.mem_append_left _ (List.mem_append_left _ (List.mem_append_left _ (List.mem_append_right _ h)))))))))))
theorem inX8 : ∀ w ∈ wsX80, w ∈ lw_tbl := fun w h => wsL_law_in w (inlX8 w h)
theorem inlX9 : ∀ w ∈ wsX90, w ∈ wsL_law := fun _ h => List.mem_append_left _ (List.mem_append_left _ (List.mem_append_left _ (List.mem_append_left _ (List.mem_append_left _ (List.mem_append_left _ (List.mem_append_left _ (List.mem_append_left _ (List.mem_append_left _ (List.mem_append_left _ (List.mem_append_left _ (List.mem_append_left _ (List.mem_append_left _ (List.mem_append_right _ h)))))))))))))
theorem inX9 : ∀ w ∈ wsX90, w ∈ lw_tbl := fun w h => wsL_law_in w (inlX9 w h)
theorem inX10 : ∀ w ∈ wsX100, w ∈ lw_tbl := by decide +kernel
theorem inJx145de : ∀ w ∈ wsJx145de0, w ∈ lw_tbl := by decide +kernel
theorem inJ13 : ∀ w ∈ wsJ130, w ∈ lw_tbl := by decide +kernel
theorem inJ9 : ∀ w ∈ wsJ90, w ∈ lw_tbl := by decide +kernel
theorem inJ0 : ∀ w ∈ wsJ00, w ∈ lw_tbl := by decide +kernel
theorem inJ7 : ∀ w ∈ wsJ70, w ∈ lw_tbl := by decide +kernel
theorem dX0_init_0 : decode cX0_init 0 = .ok (.aload_n 0, 1) := by decide +kernel
theorem dX0_init_1 : decode cX0_init 1 = .ok (.invokespecial 3, 3) := by decide +kernel
theorem dX0_init_4 : decode cX0_init 4 = .ok (.aload_n 0, 1) := by decide +kernel
theorem dX0_init_5 : decode cX0_init 5 = .ok (.bipush 101, 2) := by decide +kernel
theorem dX0_init_7 : decode cX0_init 7 = .ok (.newarray .int, 2) := by decide +kernel
theorem dX0_init_9 : decode cX0_init 9 = .ok (.putfield 9, 3) := by decide +kernel
theorem dX0_init_12 : decode cX0_init 12 = .ok (.aload_n 0, 1) := by decide +kernel
theorem dX0_init_13 : decode cX0_init 13 = .ok (.bipush 101, 2) := by decide +kernel
theorem dX0_init_15 : decode cX0_init 15 = .ok (.newarray .int, 2) := by decide +kernel
theorem dX0_init_17 : decode cX0_init 17 = .ok (.putfield 15, 3) := by decide +kernel
theorem dX0_init_20 : decode cX0_init 20 = .ok (.aload_n 0, 1) := by decide +kernel
theorem dX0_init_21 : decode cX0_init 21 = .ok (.bipush 101, 2) := by decide +kernel
theorem dX0_init_23 : decode cX0_init 23 = .ok (.newarray .int, 2) := by decide +kernel
theorem dX0_init_25 : decode cX0_init 25 = .ok (.putfield 18, 3) := by decide +kernel
theorem dX0_init_28 : decode cX0_init 28 = .ok (.aload_n 0, 1) := by decide +kernel
theorem dX0_init_29 : decode cX0_init 29 = .ok (.iconst 0, 1) := by decide +kernel
theorem dX0_init_30 : decode cX0_init 30 = .ok (.putfield 21, 3) := by decide +kernel
theorem dX0_init_33 : decode cX0_init 33 = .ok (.return_, 1) := by decide +kernel
set_option maxRecDepth 20000 in
theorem ggX0_closeUp_J7_fill_53178 : GoodIn wsX0_closeUp wsJ7_fill_53178 := goodIn_r _ [10] (by decide +kernel) (by decide +kernel)
set_option maxRecDepth 20000 in
theorem gX0_closeUp_J7_fill_53178 : GoodIn wsX0_closeUp (va_wsS RX0 25 yJ7_fill_53178 wsJ7_fill_53178) := goodIn_app (goodIn_of _ (by decide +kernel)) ggX0_closeUp_J7_fill_53178
theorem dX0_closeUp_0 : decode cX0_closeUp 0 = .ok (.aload_n 0, 1) := by decide +kernel
theorem dX0_closeUp_1 : decode cX0_closeUp 1 = .ok (.getfield 9, 3) := by decide +kernel
theorem dX0_closeUp_4 : decode cX0_closeUp 4 = .ok (.iconst 0, 1) := by decide +kernel
theorem dX0_closeUp_5 : decode cX0_closeUp 5 = .ok (.invokestatic 25, 3) := by decide +kernel
theorem dX0_closeUp_8 : decode cX0_closeUp 8 = .ok (.aload_n 0, 1) := by decide +kernel
theorem dX0_closeUp_9 : decode cX0_closeUp 9 = .ok (.getfield 15, 3) := by decide +kernel
theorem dX0_closeUp_12 : decode cX0_closeUp 12 = .ok (.iconst 0, 1) := by decide +kernel
theorem dX0_closeUp_13 : decode cX0_closeUp 13 = .ok (.invokestatic 25, 3) := by decide +kernel
theorem dX0_closeUp_16 : decode cX0_closeUp 16 = .ok (.aload_n 1, 1) := by decide +kernel
theorem dX0_closeUp_17 : decode cX0_closeUp 17 = .ok (.astore_n 2, 1) := by decide +kernel
theorem dX0_closeUp_18 : decode cX0_closeUp 18 = .ok (.aload_n 2, 1) := by decide +kernel
theorem dX0_closeUp_19 : decode cX0_closeUp 19 = .ok (.arraylength, 1) := by decide +kernel
theorem dX0_closeUp_20 : decode cX0_closeUp 20 = .ok (.istore_n 3, 1) := by decide +kernel
theorem dX0_closeUp_21 : decode cX0_closeUp 21 = .ok (.iconst 0, 1) := by decide +kernel
theorem dX0_closeUp_22 : decode cX0_closeUp 22 = .ok (.istore 4, 2) := by decide +kernel
theorem dX0_closeUp_24 : decode cX0_closeUp 24 = .ok (.iload 4, 2) := by decide +kernel
theorem dX0_closeUp_26 : decode cX0_closeUp 26 = .ok (.iload_n 3, 1) := by decide +kernel
theorem dX0_closeUp_27 : decode cX0_closeUp 27 = .ok (.if_icmp .ge 61, 3) := by decide +kernel
theorem dX0_closeUp_30 : decode cX0_closeUp 30 = .ok (.aload_n 2, 1) := by decide +kernel
theorem dX0_closeUp_31 : decode cX0_closeUp 31 = .ok (.iload 4, 2) := by decide +kernel
theorem dX0_closeUp_33 : decode cX0_closeUp 33 = .ok (.aaload, 1) := by decide +kernel
theorem dX0_closeUp_34 : decode cX0_closeUp 34 = .ok (.astore 5, 2) := by decide +kernel
theorem dX0_closeUp_36 : decode cX0_closeUp 36 = .ok (.aload 5, 2) := by decide +kernel
theorem dX0_closeUp_38 : decode cX0_closeUp 38 = .ok (.ifnull 44, 3) := by decide +kernel
theorem dX0_closeUp_41 : decode cX0_closeUp 41 = .ok (.aload_n 0, 1) := by decide +kernel
theorem dX0_closeUp_42 : decode cX0_closeUp 42 = .ok (.getfield 9, 3) := by decide +kernel
theorem dX0_closeUp_45 : decode cX0_closeUp 45 = .ok (.aload 5, 2) := by decide +kernel
theorem dX0_closeUp_47 : decode cX0_closeUp 47 = .ok (.getfield 31, 3) := by decide +kernel
theorem dX0_closeUp_50 : decode cX0_closeUp 50 = .ok (.dup2, 1) := by decide +kernel
theorem dX0_closeUp_51 : decode cX0_closeUp 51 = .ok (.iaload, 1) := by decide +kernel
theorem dX0_closeUp_52 : decode cX0_closeUp 52 = .ok (.iconst 1, 1) := by decide +kernel
theorem dX0_closeUp_53 : decode cX0_closeUp 53 = .ok (.iadd, 1) := by decide +kernel
theorem dX0_closeUp_54 : decode cX0_closeUp 54 = .ok (.iastore, 1) := by decide +kernel
theorem dX0_closeUp_55 : decode cX0_closeUp 55 = .ok (.aload_n 0, 1) := by decide +kernel
theorem dX0_closeUp_56 : decode cX0_closeUp 56 = .ok (.getfield 15, 3) := by decide +kernel
theorem dX0_closeUp_59 : decode cX0_closeUp 59 = .ok (.aload 5, 2) := by decide +kernel
theorem dX0_closeUp_61 : decode cX0_closeUp 61 = .ok (.getfield 31, 3) := by decide +kernel
theorem dX0_closeUp_64 : decode cX0_closeUp 64 = .ok (.dup2, 1) := by decide +kernel
theorem dX0_closeUp_65 : decode cX0_closeUp 65 = .ok (.iaload, 1) := by decide +kernel
theorem dX0_closeUp_66 : decode cX0_closeUp 66 = .ok (.aload 5, 2) := by decide +kernel
theorem dX0_closeUp_68 : decode cX0_closeUp 68 = .ok (.getfield 36, 3) := by decide +kernel
theorem dX0_closeUp_71 : decode cX0_closeUp 71 = .ok (.iconst 1, 1) := by decide +kernel
theorem dX0_closeUp_72 : decode cX0_closeUp 72 = .ok (.if_icmp .ne 7, 3) := by decide +kernel
theorem dX0_closeUp_75 : decode cX0_closeUp 75 = .ok (.iconst 1, 1) := by decide +kernel
theorem dX0_closeUp_76 : decode cX0_closeUp 76 = .ok (.goto 4, 3) := by decide +kernel
theorem dX0_closeUp_79 : decode cX0_closeUp 79 = .ok (.iconst 0, 1) := by decide +kernel
theorem dX0_closeUp_80 : decode cX0_closeUp 80 = .ok (.iadd, 1) := by decide +kernel
theorem dX0_closeUp_81 : decode cX0_closeUp 81 = .ok (.iastore, 1) := by decide +kernel
theorem dX0_closeUp_82 : decode cX0_closeUp 82 = .ok (.iinc 4 1, 3) := by decide +kernel
theorem dX0_closeUp_85 : decode cX0_closeUp 85 = .ok (.goto (-61), 3) := by decide +kernel
theorem dX0_closeUp_88 : decode cX0_closeUp 88 = .ok (.aload_n 0, 1) := by decide +kernel
theorem dX0_closeUp_89 : decode cX0_closeUp 89 = .ok (.iconst 0, 1) := by decide +kernel
theorem dX0_closeUp_90 : decode cX0_closeUp 90 = .ok (.putfield 21, 3) := by decide +kernel
theorem dX0_closeUp_93 : decode cX0_closeUp 93 = .ok (.iconst 0, 1) := by decide +kernel
theorem dX0_closeUp_94 : decode cX0_closeUp 94 = .ok (.istore_n 2, 1) := by decide +kernel
theorem dX0_closeUp_95 : decode cX0_closeUp 95 = .ok (.iload_n 2, 1) := by decide +kernel
theorem dX0_closeUp_96 : decode cX0_closeUp 96 = .ok (.bipush 101, 2) := by decide +kernel
theorem dX0_closeUp_98 : decode cX0_closeUp 98 = .ok (.if_icmp .ge 53, 3) := by decide +kernel
theorem dX0_closeUp_101 : decode cX0_closeUp 101 = .ok (.aload_n 0, 1) := by decide +kernel
theorem dX0_closeUp_102 : decode cX0_closeUp 102 = .ok (.getfield 18, 3) := by decide +kernel
theorem dX0_closeUp_105 : decode cX0_closeUp 105 = .ok (.iload_n 2, 1) := by decide +kernel
theorem dX0_closeUp_106 : decode cX0_closeUp 106 = .ok (.aload_n 0, 1) := by decide +kernel
theorem dX0_closeUp_107 : decode cX0_closeUp 107 = .ok (.getfield 21, 3) := by decide +kernel
theorem dX0_closeUp_110 : decode cX0_closeUp 110 = .ok (.iastore, 1) := by decide +kernel
theorem dX0_closeUp_111 : decode cX0_closeUp 111 = .ok (.aload_n 0, 1) := by decide +kernel
theorem dX0_closeUp_112 : decode cX0_closeUp 112 = .ok (.getfield 9, 3) := by decide +kernel
theorem dX0_closeUp_115 : decode cX0_closeUp 115 = .ok (.iload_n 2, 1) := by decide +kernel
theorem dX0_closeUp_116 : decode cX0_closeUp 116 = .ok (.iaload, 1) := by decide +kernel
theorem dX0_closeUp_117 : decode cX0_closeUp 117 = .ok (.ifCond .le 28, 3) := by decide +kernel
theorem dX0_closeUp_120 : decode cX0_closeUp 120 = .ok (.aload_n 0, 1) := by decide +kernel
theorem dX0_closeUp_121 : decode cX0_closeUp 121 = .ok (.getfield 15, 3) := by decide +kernel
theorem dX0_closeUp_124 : decode cX0_closeUp 124 = .ok (.iload_n 2, 1) := by decide +kernel
theorem dX0_closeUp_125 : decode cX0_closeUp 125 = .ok (.iaload, 1) := by decide +kernel
theorem dX0_closeUp_126 : decode cX0_closeUp 126 = .ok (.aload_n 0, 1) := by decide +kernel
theorem dX0_closeUp_127 : decode cX0_closeUp 127 = .ok (.getfield 9, 3) := by decide +kernel
theorem dX0_closeUp_130 : decode cX0_closeUp 130 = .ok (.iload_n 2, 1) := by decide +kernel
theorem dX0_closeUp_131 : decode cX0_closeUp 131 = .ok (.iaload, 1) := by decide +kernel
theorem dX0_closeUp_132 : decode cX0_closeUp 132 = .ok (.if_icmp .ne 13, 3) := by decide +kernel
theorem dX0_closeUp_135 : decode cX0_closeUp 135 = .ok (.aload_n 0, 1) := by decide +kernel
theorem dX0_closeUp_136 : decode cX0_closeUp 136 = .ok (.dup, 1) := by decide +kernel
theorem dX0_closeUp_137 : decode cX0_closeUp 137 = .ok (.getfield 21, 3) := by decide +kernel
theorem dX0_closeUp_140 : decode cX0_closeUp 140 = .ok (.iconst 1, 1) := by decide +kernel
theorem dX0_closeUp_141 : decode cX0_closeUp 141 = .ok (.iadd, 1) := by decide +kernel
theorem dX0_closeUp_142 : decode cX0_closeUp 142 = .ok (.putfield 21, 3) := by decide +kernel
theorem dX0_closeUp_145 : decode cX0_closeUp 145 = .ok (.iinc 2 1, 3) := by decide +kernel
theorem dX0_closeUp_148 : decode cX0_closeUp 148 = .ok (.goto (-53), 3) := by decide +kernel
theorem dX0_closeUp_151 : decode cX0_closeUp 151 = .ok (.return_, 1) := by decide +kernel
theorem dX1_init_0 : decode cX1_init 0 = .ok (.aload_n 0, 1) := by decide +kernel
theorem dX1_init_1 : decode cX1_init 1 = .ok (.invokespecial 3, 3) := by decide +kernel
theorem dX1_init_4 : decode cX1_init 4 = .ok (.aload_n 0, 1) := by decide +kernel
theorem dX1_init_5 : decode cX1_init 5 = .ok (.bipush 32, 2) := by decide +kernel
theorem dX1_init_7 : decode cX1_init 7 = .ok (.newarray .boolean, 2) := by decide +kernel
theorem dX1_init_9 : decode cX1_init 9 = .ok (.putfield 9, 3) := by decide +kernel
theorem dX1_init_12 : decode cX1_init 12 = .ok (.aload_n 0, 1) := by decide +kernel
theorem dX1_init_13 : decode cX1_init 13 = .ok (.bipush 32, 2) := by decide +kernel
theorem dX1_init_15 : decode cX1_init 15 = .ok (.newarray .int, 2) := by decide +kernel
theorem dX1_init_17 : decode cX1_init 17 = .ok (.putfield 15, 3) := by decide +kernel
theorem dX1_init_20 : decode cX1_init 20 = .ok (.aload_n 0, 1) := by decide +kernel
theorem dX1_init_21 : decode cX1_init 21 = .ok (.iconst 4, 1) := by decide +kernel
theorem dX1_init_22 : decode cX1_init 22 = .ok (.newarray .int, 2) := by decide +kernel
theorem dX1_init_24 : decode cX1_init 24 = .ok (.putfield 19, 3) := by decide +kernel
theorem dX1_init_27 : decode cX1_init 27 = .ok (.aload_n 0, 1) := by decide +kernel
theorem dX1_init_28 : decode cX1_init 28 = .ok (.iconst 2, 1) := by decide +kernel
theorem dX1_init_29 : decode cX1_init 29 = .ok (.putfield 22, 3) := by decide +kernel
theorem dX1_init_32 : decode cX1_init 32 = .ok (.return_, 1) := by decide +kernel
set_option maxRecDepth 20000 in
theorem ggX1_clear_J7_fill_53178 : GoodIn wsX1_clear wsJ7_fill_53178 := goodIn_r _ [6] (by decide +kernel) (by decide +kernel)
set_option maxRecDepth 20000 in
theorem gX1_clear_J7_fill_53178 : GoodIn wsX1_clear (va_wsS RX1 26 yJ7_fill_53178 wsJ7_fill_53178) := goodIn_app (goodIn_of _ (by decide +kernel)) ggX1_clear_J7_fill_53178
theorem dX1_clear_0 : decode cX1_clear 0 = .ok (.aload_n 0, 1) := by decide +kernel
theorem dX1_clear_1 : decode cX1_clear 1 = .ok (.getfield 15, 3) := by decide +kernel
theorem dX1_clear_4 : decode cX1_clear 4 = .ok (.iconst (-1), 1) := by decide +kernel
theorem dX1_clear_5 : decode cX1_clear 5 = .ok (.invokestatic 26, 3) := by decide +kernel
theorem dX1_clear_8 : decode cX1_clear 8 = .ok (.aload_n 0, 1) := by decide +kernel
theorem dX1_clear_9 : decode cX1_clear 9 = .ok (.getfield 19, 3) := by decide +kernel
theorem dX1_clear_12 : decode cX1_clear 12 = .ok (.sipush (-1000), 3) := by decide +kernel
theorem dX1_clear_15 : decode cX1_clear 15 = .ok (.invokestatic 26, 3) := by decide +kernel
theorem dX1_clear_18 : decode cX1_clear 18 = .ok (.return_, 1) := by decide +kernel
set_option maxRecDepth 20000 in
theorem ggX1_give_X1_lowestFree : GoodIn wsX1_give wsX1_lowestFree := goodIn_r _ [7, 2, 8, 9, 1, 10, 11, 12, 13] (by decide +kernel) (by decide +kernel)
set_option maxRecDepth 20000 in
theorem gX1_give_X1_lowestFree : GoodIn wsX1_give (wsV RX1 32 RX1 yX1_lowestFree wsX1_lowestFree) := goodIn_app (goodIn_of _ (by decide +kernel)) ggX1_give_X1_lowestFree
theorem dX1_give_0 : decode cX1_give 0 = .ok (.aload_n 0, 1) := by decide +kernel
theorem dX1_give_1 : decode cX1_give 1 = .ok (.iconst 0, 1) := by decide +kernel
theorem dX1_give_2 : decode cX1_give 2 = .ok (.bipush 6, 2) := by decide +kernel
theorem dX1_give_4 : decode cX1_give 4 = .ok (.iload_n 2, 1) := by decide +kernel
theorem dX1_give_5 : decode cX1_give 5 = .ok (.invokevirtual 32, 3) := by decide +kernel
theorem dX1_give_8 : decode cX1_give 8 = .ok (.istore_n 3, 1) := by decide +kernel
theorem dX1_give_9 : decode cX1_give 9 = .ok (.iload_n 3, 1) := by decide +kernel
theorem dX1_give_10 : decode cX1_give 10 = .ok (.iconst (-1), 1) := by decide +kernel
theorem dX1_give_11 : decode cX1_give 11 = .ok (.if_icmp .ne 13, 3) := by decide +kernel
theorem dX1_give_14 : decode cX1_give 14 = .ok (.aload_n 0, 1) := by decide +kernel
theorem dX1_give_15 : decode cX1_give 15 = .ok (.bipush 6, 2) := by decide +kernel
theorem dX1_give_17 : decode cX1_give 17 = .ok (.bipush 8, 2) := by decide +kernel
theorem dX1_give_19 : decode cX1_give 19 = .ok (.iload_n 2, 1) := by decide +kernel
theorem dX1_give_20 : decode cX1_give 20 = .ok (.invokevirtual 32, 3) := by decide +kernel
theorem dX1_give_23 : decode cX1_give 23 = .ok (.istore_n 3, 1) := by decide +kernel
theorem dX1_give_24 : decode cX1_give 24 = .ok (.iload_n 3, 1) := by decide +kernel
theorem dX1_give_25 : decode cX1_give 25 = .ok (.iconst (-1), 1) := by decide +kernel
theorem dX1_give_26 : decode cX1_give 26 = .ok (.if_icmp .eq 20, 3) := by decide +kernel
theorem dX1_give_29 : decode cX1_give 29 = .ok (.aload_n 0, 1) := by decide +kernel
theorem dX1_give_30 : decode cX1_give 30 = .ok (.getfield 15, 3) := by decide +kernel
theorem dX1_give_33 : decode cX1_give 33 = .ok (.iload_n 3, 1) := by decide +kernel
theorem dX1_give_34 : decode cX1_give 34 = .ok (.iload_n 1, 1) := by decide +kernel
theorem dX1_give_35 : decode cX1_give 35 = .ok (.iastore, 1) := by decide +kernel
theorem dX1_give_36 : decode cX1_give 36 = .ok (.aload_n 0, 1) := by decide +kernel
theorem dX1_give_37 : decode cX1_give 37 = .ok (.getfield 19, 3) := by decide +kernel
theorem dX1_give_40 : decode cX1_give 40 = .ok (.iload_n 3, 1) := by decide +kernel
theorem dX1_give_41 : decode cX1_give 41 = .ok (.bipush 8, 2) := by decide +kernel
theorem dX1_give_43 : decode cX1_give 43 = .ok (.idiv, 1) := by decide +kernel
theorem dX1_give_44 : decode cX1_give 44 = .ok (.iload_n 2, 1) := by decide +kernel
theorem dX1_give_45 : decode cX1_give 45 = .ok (.iastore, 1) := by decide +kernel
theorem dX1_give_46 : decode cX1_give 46 = .ok (.iload_n 3, 1) := by decide +kernel
theorem dX1_give_47 : decode cX1_give 47 = .ok (.ireturn, 1) := by decide +kernel
theorem dX1_lowestFree_0 : decode cX1_lowestFree 0 = .ok (.iconst 0, 1) := by decide +kernel
theorem dX1_lowestFree_1 : decode cX1_lowestFree 1 = .ok (.istore 4, 2) := by decide +kernel
theorem dX1_lowestFree_3 : decode cX1_lowestFree 3 = .ok (.iload 4, 2) := by decide +kernel
theorem dX1_lowestFree_5 : decode cX1_lowestFree 5 = .ok (.iconst 4, 1) := by decide +kernel
theorem dX1_lowestFree_6 : decode cX1_lowestFree 6 = .ok (.if_icmp .ge 74, 3) := by decide +kernel
theorem dX1_lowestFree_9 : decode cX1_lowestFree 9 = .ok (.iload_n 3, 1) := by decide +kernel
theorem dX1_lowestFree_10 : decode cX1_lowestFree 10 = .ok (.aload_n 0, 1) := by decide +kernel
theorem dX1_lowestFree_11 : decode cX1_lowestFree 11 = .ok (.getfield 19, 3) := by decide +kernel
theorem dX1_lowestFree_14 : decode cX1_lowestFree 14 = .ok (.iload 4, 2) := by decide +kernel
theorem dX1_lowestFree_16 : decode cX1_lowestFree 16 = .ok (.iaload, 1) := by decide +kernel
theorem dX1_lowestFree_17 : decode cX1_lowestFree 17 = .ok (.isub, 1) := by decide +kernel
theorem dX1_lowestFree_18 : decode cX1_lowestFree 18 = .ok (.aload_n 0, 1) := by decide +kernel
theorem dX1_lowestFree_19 : decode cX1_lowestFree 19 = .ok (.getfield 22, 3) := by decide +kernel
theorem dX1_lowestFree_22 : decode cX1_lowestFree 22 = .ok (.if_icmp .lt 52, 3) := by decide +kernel
theorem dX1_lowestFree_25 : decode cX1_lowestFree 25 = .ok (.iload_n 1, 1) := by decide +kernel
theorem dX1_lowestFree_26 : decode cX1_lowestFree 26 = .ok (.istore 5, 2) := by decide +kernel
theorem dX1_lowestFree_28 : decode cX1_lowestFree 28 = .ok (.iload 5, 2) := by decide +kernel
theorem dX1_lowestFree_30 : decode cX1_lowestFree 30 = .ok (.iload_n 2, 1) := by decide +kernel
theorem dX1_lowestFree_31 : decode cX1_lowestFree 31 = .ok (.if_icmp .ge 43, 3) := by decide +kernel
theorem dX1_lowestFree_34 : decode cX1_lowestFree 34 = .ok (.bipush 8, 2) := by decide +kernel
theorem dX1_lowestFree_36 : decode cX1_lowestFree 36 = .ok (.iload 4, 2) := by decide +kernel
theorem dX1_lowestFree_38 : decode cX1_lowestFree 38 = .ok (.imul, 1) := by decide +kernel
theorem dX1_lowestFree_39 : decode cX1_lowestFree 39 = .ok (.iload 5, 2) := by decide +kernel
theorem dX1_lowestFree_41 : decode cX1_lowestFree 41 = .ok (.iadd, 1) := by decide +kernel
theorem dX1_lowestFree_42 : decode cX1_lowestFree 42 = .ok (.istore 6, 2) := by decide +kernel
theorem dX1_lowestFree_44 : decode cX1_lowestFree 44 = .ok (.aload_n 0, 1) := by decide +kernel
theorem dX1_lowestFree_45 : decode cX1_lowestFree 45 = .ok (.getfield 9, 3) := by decide +kernel
theorem dX1_lowestFree_48 : decode cX1_lowestFree 48 = .ok (.iload 6, 2) := by decide +kernel
theorem dX1_lowestFree_50 : decode cX1_lowestFree 50 = .ok (.baload, 1) := by decide +kernel
theorem dX1_lowestFree_51 : decode cX1_lowestFree 51 = .ok (.ifCond .ne 17, 3) := by decide +kernel
theorem dX1_lowestFree_54 : decode cX1_lowestFree 54 = .ok (.aload_n 0, 1) := by decide +kernel
theorem dX1_lowestFree_55 : decode cX1_lowestFree 55 = .ok (.getfield 15, 3) := by decide +kernel
theorem dX1_lowestFree_58 : decode cX1_lowestFree 58 = .ok (.iload 6, 2) := by decide +kernel
theorem dX1_lowestFree_60 : decode cX1_lowestFree 60 = .ok (.iaload, 1) := by decide +kernel
theorem dX1_lowestFree_61 : decode cX1_lowestFree 61 = .ok (.iconst (-1), 1) := by decide +kernel
theorem dX1_lowestFree_62 : decode cX1_lowestFree 62 = .ok (.if_icmp .ne 6, 3) := by decide +kernel
theorem dX1_lowestFree_65 : decode cX1_lowestFree 65 = .ok (.iload 6, 2) := by decide +kernel
theorem dX1_lowestFree_67 : decode cX1_lowestFree 67 = .ok (.ireturn, 1) := by decide +kernel
theorem dX1_lowestFree_68 : decode cX1_lowestFree 68 = .ok (.iinc 5 1, 3) := by decide +kernel
theorem dX1_lowestFree_71 : decode cX1_lowestFree 71 = .ok (.goto (-43), 3) := by decide +kernel
theorem dX1_lowestFree_74 : decode cX1_lowestFree 74 = .ok (.iinc 4 1, 3) := by decide +kernel
theorem dX1_lowestFree_77 : decode cX1_lowestFree 77 = .ok (.goto (-74), 3) := by decide +kernel
theorem dX1_lowestFree_80 : decode cX1_lowestFree 80 = .ok (.iconst (-1), 1) := by decide +kernel
theorem dX1_lowestFree_81 : decode cX1_lowestFree 81 = .ok (.ireturn, 1) := by decide +kernel
theorem dX1_sparesGiven_0 : decode cX1_sparesGiven 0 = .ok (.iconst 0, 1) := by decide +kernel
theorem dX1_sparesGiven_1 : decode cX1_sparesGiven 1 = .ok (.istore_n 1, 1) := by decide +kernel
theorem dX1_sparesGiven_2 : decode cX1_sparesGiven 2 = .ok (.iconst 0, 1) := by decide +kernel
theorem dX1_sparesGiven_3 : decode cX1_sparesGiven 3 = .ok (.istore_n 2, 1) := by decide +kernel
theorem dX1_sparesGiven_4 : decode cX1_sparesGiven 4 = .ok (.iload_n 2, 1) := by decide +kernel
theorem dX1_sparesGiven_5 : decode cX1_sparesGiven 5 = .ok (.bipush 32, 2) := by decide +kernel
theorem dX1_sparesGiven_7 : decode cX1_sparesGiven 7 = .ok (.if_icmp .ge 31, 3) := by decide +kernel
theorem dX1_sparesGiven_10 : decode cX1_sparesGiven 10 = .ok (.iload_n 2, 1) := by decide +kernel
theorem dX1_sparesGiven_11 : decode cX1_sparesGiven 11 = .ok (.bipush 8, 2) := by decide +kernel
theorem dX1_sparesGiven_13 : decode cX1_sparesGiven 13 = .ok (.irem, 1) := by decide +kernel
theorem dX1_sparesGiven_14 : decode cX1_sparesGiven 14 = .ok (.bipush 6, 2) := by decide +kernel
theorem dX1_sparesGiven_16 : decode cX1_sparesGiven 16 = .ok (.if_icmp .lt 16, 3) := by decide +kernel
theorem dX1_sparesGiven_19 : decode cX1_sparesGiven 19 = .ok (.aload_n 0, 1) := by decide +kernel
theorem dX1_sparesGiven_20 : decode cX1_sparesGiven 20 = .ok (.getfield 15, 3) := by decide +kernel
theorem dX1_sparesGiven_23 : decode cX1_sparesGiven 23 = .ok (.iload_n 2, 1) := by decide +kernel
theorem dX1_sparesGiven_24 : decode cX1_sparesGiven 24 = .ok (.iaload, 1) := by decide +kernel
theorem dX1_sparesGiven_25 : decode cX1_sparesGiven 25 = .ok (.iconst (-1), 1) := by decide +kernel
theorem dX1_sparesGiven_26 : decode cX1_sparesGiven 26 = .ok (.if_icmp .eq 6, 3) := by decide +kernel
theorem dX1_sparesGiven_29 : decode cX1_sparesGiven 29 = .ok (.iinc 1 1, 3) := by decide +kernel
theorem dX1_sparesGiven_32 : decode cX1_sparesGiven 32 = .ok (.iinc 2 1, 3) := by decide +kernel
theorem dX1_sparesGiven_35 : decode cX1_sparesGiven 35 = .ok (.goto (-31), 3) := by decide +kernel
theorem dX1_sparesGiven_38 : decode cX1_sparesGiven 38 = .ok (.iload_n 1, 1) := by decide +kernel
theorem dX1_sparesGiven_39 : decode cX1_sparesGiven 39 = .ok (.ireturn, 1) := by decide +kernel
theorem dX2_init_0 : decode cX2_init 0 = .ok (.aload_n 0, 1) := by decide +kernel
theorem dX2_init_1 : decode cX2_init 1 = .ok (.invokespecial 3, 3) := by decide +kernel
theorem dX2_init_4 : decode cX2_init 4 = .ok (.aload_n 0, 1) := by decide +kernel
theorem dX2_init_5 : decode cX2_init 5 = .ok (.lconst 0, 1) := by decide +kernel
theorem dX2_init_6 : decode cX2_init 6 = .ok (.putfield 9, 3) := by decide +kernel
theorem dX2_init_9 : decode cX2_init 9 = .ok (.aload_n 0, 1) := by decide +kernel
theorem dX2_init_10 : decode cX2_init 10 = .ok (.iconst 0, 1) := by decide +kernel
theorem dX2_init_11 : decode cX2_init 11 = .ok (.putfield 15, 3) := by decide +kernel
theorem dX2_init_14 : decode cX2_init 14 = .ok (.aload_n 0, 1) := by decide +kernel
theorem dX2_init_15 : decode cX2_init 15 = .ok (.iconst 0, 1) := by decide +kernel
theorem dX2_init_16 : decode cX2_init 16 = .ok (.putfield 19, 3) := by decide +kernel
theorem dX2_init_19 : decode cX2_init 19 = .ok (.aload_n 0, 1) := by decide +kernel
theorem dX2_init_20 : decode cX2_init 20 = .ok (.iconst 0, 1) := by decide +kernel
theorem dX2_init_21 : decode cX2_init 21 = .ok (.putfield 22, 3) := by decide +kernel
theorem dX2_init_24 : decode cX2_init 24 = .ok (.aload_n 0, 1) := by decide +kernel
theorem dX2_init_25 : decode cX2_init 25 = .ok (.iconst (-1), 1) := by decide +kernel
theorem dX2_init_26 : decode cX2_init 26 = .ok (.putfield 25, 3) := by decide +kernel
theorem dX2_init_29 : decode cX2_init 29 = .ok (.aload_n 0, 1) := by decide +kernel
theorem dX2_init_30 : decode cX2_init 30 = .ok (.iload_n 1, 1) := by decide +kernel
theorem dX2_init_31 : decode cX2_init 31 = .ok (.putfield 28, 3) := by decide +kernel
theorem dX2_init_34 : decode cX2_init 34 = .ok (.aload_n 0, 1) := by decide +kernel
theorem dX2_init_35 : decode cX2_init 35 = .ok (.iload_n 2, 1) := by decide +kernel
theorem dX2_init_36 : decode cX2_init 36 = .ok (.putfield 31, 3) := by decide +kernel
theorem dX2_init_39 : decode cX2_init 39 = .ok (.aload_n 0, 1) := by decide +kernel
theorem dX2_init_40 : decode cX2_init 40 = .ok (.aload_n 3, 1) := by decide +kernel
theorem dX2_init_41 : decode cX2_init 41 = .ok (.putfield 34, 3) := by decide +kernel
theorem dX2_init_44 : decode cX2_init 44 = .ok (.aload_n 0, 1) := by decide +kernel
theorem dX2_init_45 : decode cX2_init 45 = .ok (.aload 4, 2) := by decide +kernel
theorem dX2_init_47 : decode cX2_init 47 = .ok (.putfield 38, 3) := by decide +kernel
theorem dX2_init_50 : decode cX2_init 50 = .ok (.return_, 1) := by decide +kernel
set_option maxRecDepth 20000 in
theorem ggX3_init_X5_init : GoodIn wsX3_init wsX5_init := goodIn_r _ [9, 10, 2, 3] (by decide +kernel) (by decide +kernel)
set_option maxRecDepth 20000 in
theorem gX3_init_X5_init_n9 : GoodIn wsX3_init (wsX5_init) := ggX3_init_X5_init
theorem dX3_init_0 : decode cX3_init 0 = .ok (.aload_n 0, 1) := by decide +kernel
theorem dX3_init_1 : decode cX3_init 1 = .ok (.invokespecial 1, 3) := by decide +kernel
theorem dX3_init_4 : decode cX3_init 4 = .ok (.aload_n 0, 1) := by decide +kernel
theorem dX3_init_5 : decode cX3_init 5 = .ok (.new 7, 3) := by decide +kernel
theorem dX3_init_8 : decode cX3_init 8 = .ok (.dup, 1) := by decide +kernel
theorem dX3_init_9 : decode cX3_init 9 = .ok (.invokespecial 9, 3) := by decide +kernel
theorem dX3_init_12 : decode cX3_init 12 = .ok (.putfield 10, 3) := by decide +kernel
theorem dX3_init_15 : decode cX3_init 15 = .ok (.return_, 1) := by decide +kernel
set_option maxRecDepth 20000 in
theorem ggX3_start_X5_start : GoodIn wsX3_start wsX5_start := goodIn_r _ [10, 11, 12, 13, 14, 15, 37, 38, 39, 40, 41] (by decide +kernel) (by decide +kernel)
set_option maxRecDepth 20000 in
theorem gX3_start_X5_start : GoodIn wsX3_start (wsV RX3 25 RX5 yX5_start wsX5_start) := goodIn_app (goodIn_of _ (by decide +kernel)) ggX3_start_X5_start
set_option maxRecDepth 20000 in
theorem ggX3_start_X7_middleX : GoodIn wsX3_start wsX7_middleX := goodIn_r _ [20, 21, 42, 43] (by decide +kernel) (by decide +kernel)
set_option maxRecDepth 20000 in
theorem gX3_start_X7_middleX : GoodIn wsX3_start (wsV RX3 29 RX7 yX7_middleX wsX7_middleX) := goodIn_app (goodIn_of _ (by decide +kernel)) ggX3_start_X7_middleX
set_option maxRecDepth 20000 in
theorem ggX3_start_X7_middleY : GoodIn wsX3_start wsX7_middleY := goodIn_r _ [25, 26, 42, 43] (by decide +kernel) (by decide +kernel)
set_option maxRecDepth 20000 in
theorem gX3_start_X7_middleY : GoodIn wsX3_start (wsV RX3 38 RX7 yX7_middleY wsX7_middleY) := goodIn_app (goodIn_of _ (by decide +kernel)) ggX3_start_X7_middleY
theorem dX3_start_0 : decode cX3_start 0 = .ok (.aload_n 0, 1) := by decide +kernel
theorem dX3_start_1 : decode cX3_start 1 = .ok (.getfield 10, 3) := by decide +kernel
theorem dX3_start_4 : decode cX3_start 4 = .ok (.aload_n 1, 1) := by decide +kernel
theorem dX3_start_5 : decode cX3_start 5 = .ok (.getfield 16, 3) := by decide +kernel
theorem dX3_start_8 : decode cX3_start 8 = .ok (.aload_n 1, 1) := by decide +kernel
theorem dX3_start_9 : decode cX3_start 9 = .ok (.getfield 22, 3) := by decide +kernel
theorem dX3_start_12 : decode cX3_start 12 = .ok (.invokevirtual 25, 3) := by decide +kernel
theorem dX3_start_15 : decode cX3_start 15 = .ok (.aload_n 0, 1) := by decide +kernel
theorem dX3_start_16 : decode cX3_start 16 = .ok (.aload_n 2, 1) := by decide +kernel
theorem dX3_start_17 : decode cX3_start 17 = .ok (.invokevirtual 29, 3) := by decide +kernel
theorem dX3_start_20 : decode cX3_start 20 = .ok (.putfield 35, 3) := by decide +kernel
theorem dX3_start_23 : decode cX3_start 23 = .ok (.aload_n 0, 1) := by decide +kernel
theorem dX3_start_24 : decode cX3_start 24 = .ok (.aload_n 2, 1) := by decide +kernel
theorem dX3_start_25 : decode cX3_start 25 = .ok (.invokevirtual 38, 3) := by decide +kernel
theorem dX3_start_28 : decode cX3_start 28 = .ok (.putfield 41, 3) := by decide +kernel
theorem dX3_start_31 : decode cX3_start 31 = .ok (.return_, 1) := by decide +kernel
set_option maxRecDepth 20000 in
theorem ggX3_driveAndPass_X5_layer : GoodIn wsX3_driveAndPass wsX5_layer := goodIn_r _ [10, 11, 12, 13, 14, 15, 16, 17, 18, 32, 33, 34, 35, 36] (by decide +kernel) (by decide +kernel)
set_option maxRecDepth 20000 in
theorem gX3_driveAndPass_X5_layer : GoodIn wsX3_driveAndPass (wsV RX3 44 RX5 yX5_layer wsX5_layer) := goodIn_app (goodIn_of _ (by decide +kernel)) ggX3_driveAndPass_X5_layer
set_option maxRecDepth 20000 in
theorem ggX3_driveAndPass_X5_pass : GoodIn wsX3_driveAndPass wsX5_pass := goodIn_r _ [22, 23, 11, 24, 25, 26, 32, 33, 34, 35, 36] (by decide +kernel) (by decide +kernel)
set_option maxRecDepth 20000 in
theorem gX3_driveAndPass_X5_pass : GoodIn wsX3_driveAndPass (wsV RX3 54 RX5 yX5_pass wsX5_pass) := goodIn_app (goodIn_of _ (by decide +kernel)) ggX3_driveAndPass_X5_pass
theorem dX3_driveAndPass_0 : decode cX3_driveAndPass 0 = .ok (.aload_n 0, 1) := by decide +kernel
theorem dX3_driveAndPass_1 : decode cX3_driveAndPass 1 = .ok (.getfield 10, 3) := by decide +kernel
theorem dX3_driveAndPass_4 : decode cX3_driveAndPass 4 = .ok (.invokevirtual 44, 3) := by decide +kernel
theorem dX3_driveAndPass_7 : decode cX3_driveAndPass 7 = .ok (.istore_n 2, 1) := by decide +kernel
theorem dX3_driveAndPass_8 : decode cX3_driveAndPass 8 = .ok (.aload_n 0, 1) := by decide +kernel
theorem dX3_driveAndPass_9 : decode cX3_driveAndPass 9 = .ok (.dup, 1) := by decide +kernel
theorem dX3_driveAndPass_10 : decode cX3_driveAndPass 10 = .ok (.getfield 35, 3) := by decide +kernel
theorem dX3_driveAndPass_13 : decode cX3_driveAndPass 13 = .ok (.aload_n 1, 1) := by decide +kernel
theorem dX3_driveAndPass_14 : decode cX3_driveAndPass 14 = .ok (.getfield 47, 3) := by decide +kernel
theorem dX3_driveAndPass_17 : decode cX3_driveAndPass 17 = .ok (.iload_n 2, 1) := by decide +kernel
theorem dX3_driveAndPass_18 : decode cX3_driveAndPass 18 = .ok (.iaload, 1) := by decide +kernel
theorem dX3_driveAndPass_19 : decode cX3_driveAndPass 19 = .ok (.iadd, 1) := by decide +kernel
theorem dX3_driveAndPass_20 : decode cX3_driveAndPass 20 = .ok (.putfield 35, 3) := by decide +kernel
theorem dX3_driveAndPass_23 : decode cX3_driveAndPass 23 = .ok (.aload_n 0, 1) := by decide +kernel
theorem dX3_driveAndPass_24 : decode cX3_driveAndPass 24 = .ok (.dup, 1) := by decide +kernel
theorem dX3_driveAndPass_25 : decode cX3_driveAndPass 25 = .ok (.getfield 41, 3) := by decide +kernel
theorem dX3_driveAndPass_28 : decode cX3_driveAndPass 28 = .ok (.aload_n 1, 1) := by decide +kernel
theorem dX3_driveAndPass_29 : decode cX3_driveAndPass 29 = .ok (.getfield 52, 3) := by decide +kernel
theorem dX3_driveAndPass_32 : decode cX3_driveAndPass 32 = .ok (.iload_n 2, 1) := by decide +kernel
theorem dX3_driveAndPass_33 : decode cX3_driveAndPass 33 = .ok (.iaload, 1) := by decide +kernel
theorem dX3_driveAndPass_34 : decode cX3_driveAndPass 34 = .ok (.iadd, 1) := by decide +kernel
theorem dX3_driveAndPass_35 : decode cX3_driveAndPass 35 = .ok (.putfield 41, 3) := by decide +kernel
theorem dX3_driveAndPass_38 : decode cX3_driveAndPass 38 = .ok (.aload_n 0, 1) := by decide +kernel
theorem dX3_driveAndPass_39 : decode cX3_driveAndPass 39 = .ok (.getfield 10, 3) := by decide +kernel
theorem dX3_driveAndPass_42 : decode cX3_driveAndPass 42 = .ok (.invokevirtual 54, 3) := by decide +kernel
theorem dX3_driveAndPass_45 : decode cX3_driveAndPass 45 = .ok (.return_, 1) := by decide +kernel
theorem dX4_init_0 : decode cX4_init 0 = .ok (.aload_n 0, 1) := by decide +kernel
theorem dX4_init_1 : decode cX4_init 1 = .ok (.invokespecial 3, 3) := by decide +kernel
theorem dX4_init_4 : decode cX4_init 4 = .ok (.aload_n 0, 1) := by decide +kernel
theorem dX4_init_5 : decode cX4_init 5 = .ok (.bipush 64, 2) := by decide +kernel
theorem dX4_init_7 : decode cX4_init 7 = .ok (.newarray .int, 2) := by decide +kernel
theorem dX4_init_9 : decode cX4_init 9 = .ok (.putfield 9, 3) := by decide +kernel
theorem dX4_init_12 : decode cX4_init 12 = .ok (.aload_n 0, 1) := by decide +kernel
theorem dX4_init_13 : decode cX4_init 13 = .ok (.bipush 64, 2) := by decide +kernel
theorem dX4_init_15 : decode cX4_init 15 = .ok (.newarray .int, 2) := by decide +kernel
theorem dX4_init_17 : decode cX4_init 17 = .ok (.putfield 15, 3) := by decide +kernel
theorem dX4_init_20 : decode cX4_init 20 = .ok (.return_, 1) := by decide +kernel
theorem dX4_zonesWithPeople_0 : decode cX4_zonesWithPeople 0 = .ok (.lconst 0, 1) := by decide +kernel
theorem dX4_zonesWithPeople_1 : decode cX4_zonesWithPeople 1 = .ok (.lstore_n 1, 1) := by decide +kernel
theorem dX4_zonesWithPeople_2 : decode cX4_zonesWithPeople 2 = .ok (.iconst 0, 1) := by decide +kernel
theorem dX4_zonesWithPeople_3 : decode cX4_zonesWithPeople 3 = .ok (.istore_n 3, 1) := by decide +kernel
theorem dX4_zonesWithPeople_4 : decode cX4_zonesWithPeople 4 = .ok (.iload_n 3, 1) := by decide +kernel
theorem dX4_zonesWithPeople_5 : decode cX4_zonesWithPeople 5 = .ok (.bipush 64, 2) := by decide +kernel
theorem dX4_zonesWithPeople_7 : decode cX4_zonesWithPeople 7 = .ok (.if_icmp .ge 24, 3) := by decide +kernel
theorem dX4_zonesWithPeople_10 : decode cX4_zonesWithPeople 10 = .ok (.aload_n 0, 1) := by decide +kernel
theorem dX4_zonesWithPeople_11 : decode cX4_zonesWithPeople 11 = .ok (.getfield 9, 3) := by decide +kernel
theorem dX4_zonesWithPeople_14 : decode cX4_zonesWithPeople 14 = .ok (.iload_n 3, 1) := by decide +kernel
theorem dX4_zonesWithPeople_15 : decode cX4_zonesWithPeople 15 = .ok (.iaload, 1) := by decide +kernel
theorem dX4_zonesWithPeople_16 : decode cX4_zonesWithPeople 16 = .ok (.ifCond .le 9, 3) := by decide +kernel
theorem dX4_zonesWithPeople_19 : decode cX4_zonesWithPeople 19 = .ok (.lload_n 1, 1) := by decide +kernel
theorem dX4_zonesWithPeople_20 : decode cX4_zonesWithPeople 20 = .ok (.lconst 1, 1) := by decide +kernel
theorem dX4_zonesWithPeople_21 : decode cX4_zonesWithPeople 21 = .ok (.iload_n 3, 1) := by decide +kernel
theorem dX4_zonesWithPeople_22 : decode cX4_zonesWithPeople 22 = .ok (.lshl, 1) := by decide +kernel
theorem dX4_zonesWithPeople_23 : decode cX4_zonesWithPeople 23 = .ok (.lor, 1) := by decide +kernel
theorem dX4_zonesWithPeople_24 : decode cX4_zonesWithPeople 24 = .ok (.lstore_n 1, 1) := by decide +kernel
theorem dX4_zonesWithPeople_25 : decode cX4_zonesWithPeople 25 = .ok (.iinc 3 1, 3) := by decide +kernel
theorem dX4_zonesWithPeople_28 : decode cX4_zonesWithPeople 28 = .ok (.goto (-24), 3) := by decide +kernel
theorem dX4_zonesWithPeople_31 : decode cX4_zonesWithPeople 31 = .ok (.lload_n 1, 1) := by decide +kernel
theorem dX4_zonesWithPeople_32 : decode cX4_zonesWithPeople 32 = .ok (.lreturn, 1) := by decide +kernel
theorem dX4_valueOf_0 : decode cX4_valueOf 0 = .ok (.lconst 0, 1) := by decide +kernel
theorem dX4_valueOf_1 : decode cX4_valueOf 1 = .ok (.lstore_n 3, 1) := by decide +kernel
theorem dX4_valueOf_2 : decode cX4_valueOf 2 = .ok (.iconst 0, 1) := by decide +kernel
theorem dX4_valueOf_3 : decode cX4_valueOf 3 = .ok (.istore 5, 2) := by decide +kernel
theorem dX4_valueOf_5 : decode cX4_valueOf 5 = .ok (.iload 5, 2) := by decide +kernel
theorem dX4_valueOf_7 : decode cX4_valueOf 7 = .ok (.bipush 64, 2) := by decide +kernel
theorem dX4_valueOf_9 : decode cX4_valueOf 9 = .ok (.if_icmp .ge 31, 3) := by decide +kernel
theorem dX4_valueOf_12 : decode cX4_valueOf 12 = .ok (.lload_n 1, 1) := by decide +kernel
theorem dX4_valueOf_13 : decode cX4_valueOf 13 = .ok (.iload 5, 2) := by decide +kernel
theorem dX4_valueOf_15 : decode cX4_valueOf 15 = .ok (.lushr, 1) := by decide +kernel
theorem dX4_valueOf_16 : decode cX4_valueOf 16 = .ok (.lconst 1, 1) := by decide +kernel
theorem dX4_valueOf_17 : decode cX4_valueOf 17 = .ok (.land, 1) := by decide +kernel
theorem dX4_valueOf_18 : decode cX4_valueOf 18 = .ok (.lconst 0, 1) := by decide +kernel
theorem dX4_valueOf_19 : decode cX4_valueOf 19 = .ok (.lcmp, 1) := by decide +kernel
theorem dX4_valueOf_20 : decode cX4_valueOf 20 = .ok (.ifCond .eq 14, 3) := by decide +kernel
theorem dX4_valueOf_23 : decode cX4_valueOf 23 = .ok (.lload_n 3, 1) := by decide +kernel
theorem dX4_valueOf_24 : decode cX4_valueOf 24 = .ok (.aload_n 0, 1) := by decide +kernel
theorem dX4_valueOf_25 : decode cX4_valueOf 25 = .ok (.getfield 15, 3) := by decide +kernel
theorem dX4_valueOf_28 : decode cX4_valueOf 28 = .ok (.iload 5, 2) := by decide +kernel
theorem dX4_valueOf_30 : decode cX4_valueOf 30 = .ok (.iaload, 1) := by decide +kernel
theorem dX4_valueOf_31 : decode cX4_valueOf 31 = .ok (.i2l, 1) := by decide +kernel
theorem dX4_valueOf_32 : decode cX4_valueOf 32 = .ok (.ladd, 1) := by decide +kernel
theorem dX4_valueOf_33 : decode cX4_valueOf 33 = .ok (.lstore_n 3, 1) := by decide +kernel
theorem dX4_valueOf_34 : decode cX4_valueOf 34 = .ok (.iinc 5 1, 3) := by decide +kernel
theorem dX4_valueOf_37 : decode cX4_valueOf 37 = .ok (.goto (-32), 3) := by decide +kernel
theorem dX4_valueOf_40 : decode cX4_valueOf 40 = .ok (.lload_n 3, 1) := by decide +kernel
theorem dX4_valueOf_41 : decode cX4_valueOf 41 = .ok (.lreturn, 1) := by decide +kernel
theorem dX5_init_0 : decode cX5_init 0 = .ok (.aload_n 0, 1) := by decide +kernel
theorem dX5_init_1 : decode cX5_init 1 = .ok (.invokespecial 3, 3) := by decide +kernel
theorem dX5_init_4 : decode cX5_init 4 = .ok (.return_, 1) := by decide +kernel
theorem dX5_start_0 : decode cX5_start 0 = .ok (.aload_n 0, 1) := by decide +kernel
theorem dX5_start_1 : decode cX5_start 1 = .ok (.iload_n 1, 1) := by decide +kernel
theorem dX5_start_2 : decode cX5_start 2 = .ok (.putfield 9, 3) := by decide +kernel
theorem dX5_start_5 : decode cX5_start 5 = .ok (.aload_n 0, 1) := by decide +kernel
theorem dX5_start_6 : decode cX5_start 6 = .ok (.iload_n 2, 1) := by decide +kernel
theorem dX5_start_7 : decode cX5_start 7 = .ok (.putfield 15, 3) := by decide +kernel
theorem dX5_start_10 : decode cX5_start 10 = .ok (.aload_n 0, 1) := by decide +kernel
theorem dX5_start_11 : decode cX5_start 11 = .ok (.iconst 0, 1) := by decide +kernel
theorem dX5_start_12 : decode cX5_start 12 = .ok (.putfield 18, 3) := by decide +kernel
theorem dX5_start_15 : decode cX5_start 15 = .ok (.aload_n 0, 1) := by decide +kernel
theorem dX5_start_16 : decode cX5_start 16 = .ok (.iconst 0, 1) := by decide +kernel
theorem dX5_start_17 : decode cX5_start 17 = .ok (.putfield 21, 3) := by decide +kernel
theorem dX5_start_20 : decode cX5_start 20 = .ok (.aload_n 0, 1) := by decide +kernel
theorem dX5_start_21 : decode cX5_start 21 = .ok (.iconst 0, 1) := by decide +kernel
theorem dX5_start_22 : decode cX5_start 22 = .ok (.putfield 25, 3) := by decide +kernel
theorem dX5_start_25 : decode cX5_start 25 = .ok (.return_, 1) := by decide +kernel
theorem dX5_layer_0 : decode cX5_layer 0 = .ok (.iconst 0, 1) := by decide +kernel
theorem dX5_layer_1 : decode cX5_layer 1 = .ok (.iconst 3, 1) := by decide +kernel
theorem dX5_layer_2 : decode cX5_layer 2 = .ok (.aload_n 0, 1) := by decide +kernel
theorem dX5_layer_3 : decode cX5_layer 3 = .ok (.getfield 18, 3) := by decide +kernel
theorem dX5_layer_6 : decode cX5_layer 6 = .ok (.sipush 250, 3) := by decide +kernel
theorem dX5_layer_9 : decode cX5_layer 9 = .ok (.idiv, 1) := by decide +kernel
theorem dX5_layer_10 : decode cX5_layer 10 = .ok (.invokestatic 28, 3) := by decide +kernel
theorem dX5_layer_13 : decode cX5_layer 13 = .ok (.invokestatic 34, 3) := by decide +kernel
theorem dX5_layer_16 : decode cX5_layer 16 = .ok (.ireturn, 1) := by decide +kernel
theorem dX5_pass_0 : decode cX5_pass 0 = .ok (.aload_n 0, 1) := by decide +kernel
theorem dX5_pass_1 : decode cX5_pass 1 = .ok (.getfield 21, 3) := by decide +kernel
theorem dX5_pass_4 : decode cX5_pass 4 = .ok (.ifCond .eq 35, 3) := by decide +kernel
theorem dX5_pass_7 : decode cX5_pass 7 = .ok (.aload_n 0, 1) := by decide +kernel
theorem dX5_pass_8 : decode cX5_pass 8 = .ok (.dup, 1) := by decide +kernel
theorem dX5_pass_9 : decode cX5_pass 9 = .ok (.getfield 18, 3) := by decide +kernel
theorem dX5_pass_12 : decode cX5_pass 12 = .ok (.aload_n 0, 1) := by decide +kernel
theorem dX5_pass_13 : decode cX5_pass 13 = .ok (.getfield 15, 3) := by decide +kernel
theorem dX5_pass_16 : decode cX5_pass 16 = .ok (.isub, 1) := by decide +kernel
theorem dX5_pass_17 : decode cX5_pass 17 = .ok (.putfield 18, 3) := by decide +kernel
theorem dX5_pass_20 : decode cX5_pass 20 = .ok (.aload_n 0, 1) := by decide +kernel
theorem dX5_pass_21 : decode cX5_pass 21 = .ok (.aload_n 0, 1) := by decide +kernel
theorem dX5_pass_22 : decode cX5_pass 22 = .ok (.getfield 18, 3) := by decide +kernel
theorem dX5_pass_25 : decode cX5_pass 25 = .ok (.ifCond .gt 7, 3) := by decide +kernel
theorem dX5_pass_28 : decode cX5_pass 28 = .ok (.iconst 1, 1) := by decide +kernel
theorem dX5_pass_29 : decode cX5_pass 29 = .ok (.goto 4, 3) := by decide +kernel
theorem dX5_pass_32 : decode cX5_pass 32 = .ok (.iconst 0, 1) := by decide +kernel
theorem dX5_pass_33 : decode cX5_pass 33 = .ok (.putfield 25, 3) := by decide +kernel
theorem dX5_pass_36 : decode cX5_pass 36 = .ok (.goto 43, 3) := by decide +kernel
theorem dX5_pass_39 : decode cX5_pass 39 = .ok (.aload_n 0, 1) := by decide +kernel
theorem dX5_pass_40 : decode cX5_pass 40 = .ok (.dup, 1) := by decide +kernel
theorem dX5_pass_41 : decode cX5_pass 41 = .ok (.getfield 18, 3) := by decide +kernel
theorem dX5_pass_44 : decode cX5_pass 44 = .ok (.aload_n 0, 1) := by decide +kernel
theorem dX5_pass_45 : decode cX5_pass 45 = .ok (.getfield 9, 3) := by decide +kernel
theorem dX5_pass_48 : decode cX5_pass 48 = .ok (.iadd, 1) := by decide +kernel
theorem dX5_pass_49 : decode cX5_pass 49 = .ok (.putfield 18, 3) := by decide +kernel
theorem dX5_pass_52 : decode cX5_pass 52 = .ok (.aload_n 0, 1) := by decide +kernel
theorem dX5_pass_53 : decode cX5_pass 53 = .ok (.dup, 1) := by decide +kernel
theorem dX5_pass_54 : decode cX5_pass 54 = .ok (.getfield 9, 3) := by decide +kernel
theorem dX5_pass_57 : decode cX5_pass 57 = .ok (.bipush 10, 2) := by decide +kernel
theorem dX5_pass_59 : decode cX5_pass 59 = .ok (.isub, 1) := by decide +kernel
theorem dX5_pass_60 : decode cX5_pass 60 = .ok (.putfield 9, 3) := by decide +kernel
theorem dX5_pass_63 : decode cX5_pass 63 = .ok (.aload_n 0, 1) := by decide +kernel
theorem dX5_pass_64 : decode cX5_pass 64 = .ok (.aload_n 0, 1) := by decide +kernel
theorem dX5_pass_65 : decode cX5_pass 65 = .ok (.getfield 9, 3) := by decide +kernel
theorem dX5_pass_68 : decode cX5_pass 68 = .ok (.ifCond .gt 7, 3) := by decide +kernel
theorem dX5_pass_71 : decode cX5_pass 71 = .ok (.iconst 1, 1) := by decide +kernel
theorem dX5_pass_72 : decode cX5_pass 72 = .ok (.goto 4, 3) := by decide +kernel
theorem dX5_pass_75 : decode cX5_pass 75 = .ok (.iconst 0, 1) := by decide +kernel
theorem dX5_pass_76 : decode cX5_pass 76 = .ok (.putfield 21, 3) := by decide +kernel
theorem dX5_pass_79 : decode cX5_pass 79 = .ok (.return_, 1) := by decide +kernel
set_option maxRecDepth 20000 in
theorem ggX6_init_X5_init : GoodIn wsX6_init wsX5_init := goodIn_r _ [11, 12, 2, 3] (by decide +kernel) (by decide +kernel)
set_option maxRecDepth 20000 in
theorem gX6_init_X5_init_n17 : GoodIn wsX6_init (wsX5_init) := ggX6_init_X5_init
set_option maxRecDepth 20000 in
theorem ggX6_init_X6_shape : GoodIn wsX6_init wsX6_shape := goodIn_r _ [17, 18, 19, 20, 21, 22, 5, 9, 23, 24, 25, 26, 27, 28, 29, 30, 31, 32, 8, 33, 34, 35, 36, 37, 38, 39, 40, 41, 42, 43, 44, 45, 46, 47, 48, 49, 50, 51, 52, 53, 54, 55, 56, 57, 58, 59, 60, 61, 62, 63, 64, 65] (by decide +kernel) (by decide +kernel)
set_option maxRecDepth 20000 in
theorem gX6_init_X6_shape : GoodIn wsX6_init (wsV RX6 22 RX6 yX6_shape wsX6_shape) := goodIn_app (goodIn_of _ (by decide +kernel)) ggX6_init_X6_shape
theorem dX6_init_0 : decode cX6_init 0 = .ok (.aload_n 0, 1) := by decide +kernel
theorem dX6_init_1 : decode cX6_init 1 = .ok (.invokespecial 3, 3) := by decide +kernel
theorem dX6_init_4 : decode cX6_init 4 = .ok (.aload_n 0, 1) := by decide +kernel
theorem dX6_init_5 : decode cX6_init 5 = .ok (.iconst 4, 1) := by decide +kernel
theorem dX6_init_6 : decode cX6_init 6 = .ok (.newarray .int, 2) := by decide +kernel
theorem dX6_init_8 : decode cX6_init 8 = .ok (.putfield 9, 3) := by decide +kernel
theorem dX6_init_11 : decode cX6_init 11 = .ok (.aload_n 0, 1) := by decide +kernel
theorem dX6_init_12 : decode cX6_init 12 = .ok (.new 15, 3) := by decide +kernel
theorem dX6_init_15 : decode cX6_init 15 = .ok (.dup, 1) := by decide +kernel
theorem dX6_init_16 : decode cX6_init 16 = .ok (.invokespecial 17, 3) := by decide +kernel
theorem dX6_init_19 : decode cX6_init 19 = .ok (.putfield 18, 3) := by decide +kernel
theorem dX6_init_22 : decode cX6_init 22 = .ok (.aload_n 0, 1) := by decide +kernel
theorem dX6_init_23 : decode cX6_init 23 = .ok (.bipush 50, 2) := by decide +kernel
theorem dX6_init_25 : decode cX6_init 25 = .ok (.bipush 20, 2) := by decide +kernel
theorem dX6_init_27 : decode cX6_init 27 = .ok (.iconst 0, 1) := by decide +kernel
theorem dX6_init_28 : decode cX6_init 28 = .ok (.invokevirtual 22, 3) := by decide +kernel
theorem dX6_init_31 : decode cX6_init 31 = .ok (.return_, 1) := by decide +kernel
set_option maxRecDepth 20000 in
theorem ggX6_shape_J7_fill_53178 : GoodIn wsX6_shape wsJ7_fill_53178 := goodIn_r _ [14] (by decide +kernel) (by decide +kernel)
set_option maxRecDepth 20000 in
theorem gX6_shape_J7_fill_53178 : GoodIn wsX6_shape (va_wsS RX6 42 yJ7_fill_53178 wsJ7_fill_53178) := goodIn_app (goodIn_of _ (by decide +kernel)) ggX6_shape_J7_fill_53178
set_option maxRecDepth 20000 in
theorem ggX6_shape_X5_start : GoodIn wsX6_shape wsX5_start := goodIn_r _ [19, 20, 21, 22, 23, 24, 47, 48, 49, 50, 51] (by decide +kernel) (by decide +kernel)
set_option maxRecDepth 20000 in
theorem gX6_shape_X5_start : GoodIn wsX6_shape (wsV RX6 48 RX5 yX5_start wsX5_start) := goodIn_app (goodIn_of _ (by decide +kernel)) ggX6_shape_X5_start
set_option maxRecDepth 20000 in
theorem ggX6_shape_X5_layer : GoodIn wsX6_shape wsX5_layer := goodIn_r _ [28, 22, 29, 30, 31, 32, 33, 34, 35, 47, 48, 49, 50, 51] (by decide +kernel) (by decide +kernel)
set_option maxRecDepth 20000 in
theorem gX6_shape_X5_layer : GoodIn wsX6_shape (wsV RX6 57 RX5 yX5_layer wsX5_layer) := goodIn_app (goodIn_of _ (by decide +kernel)) ggX6_shape_X5_layer
set_option maxRecDepth 20000 in
theorem ggX6_shape_X5_pass : GoodIn wsX6_shape wsX5_pass := goodIn_r _ [39, 23, 22, 21, 24, 20, 47, 48, 49, 50, 51] (by decide +kernel) (by decide +kernel)
set_option maxRecDepth 20000 in
theorem gX6_shape_X5_pass : GoodIn wsX6_shape (wsV RX6 64 RX5 yX5_pass wsX5_pass) := goodIn_app (goodIn_of _ (by decide +kernel)) ggX6_shape_X5_pass
theorem dX6_shape_0 : decode cX6_shape 0 = .ok (.aload_n 0, 1) := by decide +kernel
theorem dX6_shape_1 : decode cX6_shape 1 = .ok (.iload_n 1, 1) := by decide +kernel
theorem dX6_shape_2 : decode cX6_shape 2 = .ok (.putfield 26, 3) := by decide +kernel
theorem dX6_shape_5 : decode cX6_shape 5 = .ok (.aload_n 0, 1) := by decide +kernel
theorem dX6_shape_6 : decode cX6_shape 6 = .ok (.iload_n 2, 1) := by decide +kernel
theorem dX6_shape_7 : decode cX6_shape 7 = .ok (.putfield 30, 3) := by decide +kernel
theorem dX6_shape_10 : decode cX6_shape 10 = .ok (.aload_n 0, 1) := by decide +kernel
theorem dX6_shape_11 : decode cX6_shape 11 = .ok (.iload_n 3, 1) := by decide +kernel
theorem dX6_shape_12 : decode cX6_shape 12 = .ok (.putfield 33, 3) := by decide +kernel
theorem dX6_shape_15 : decode cX6_shape 15 = .ok (.aload_n 0, 1) := by decide +kernel
theorem dX6_shape_16 : decode cX6_shape 16 = .ok (.iconst 0, 1) := by decide +kernel
theorem dX6_shape_17 : decode cX6_shape 17 = .ok (.putfield 36, 3) := by decide +kernel
theorem dX6_shape_20 : decode cX6_shape 20 = .ok (.aload_n 0, 1) := by decide +kernel
theorem dX6_shape_21 : decode cX6_shape 21 = .ok (.iconst 0, 1) := by decide +kernel
theorem dX6_shape_22 : decode cX6_shape 22 = .ok (.putfield 39, 3) := by decide +kernel
theorem dX6_shape_25 : decode cX6_shape 25 = .ok (.aload_n 0, 1) := by decide +kernel
theorem dX6_shape_26 : decode cX6_shape 26 = .ok (.getfield 9, 3) := by decide +kernel
theorem dX6_shape_29 : decode cX6_shape 29 = .ok (.iconst 0, 1) := by decide +kernel
theorem dX6_shape_30 : decode cX6_shape 30 = .ok (.invokestatic 42, 3) := by decide +kernel
theorem dX6_shape_33 : decode cX6_shape 33 = .ok (.aload_n 0, 1) := by decide +kernel
theorem dX6_shape_34 : decode cX6_shape 34 = .ok (.getfield 18, 3) := by decide +kernel
theorem dX6_shape_37 : decode cX6_shape 37 = .ok (.aload_n 0, 1) := by decide +kernel
theorem dX6_shape_38 : decode cX6_shape 38 = .ok (.getfield 26, 3) := by decide +kernel
theorem dX6_shape_41 : decode cX6_shape 41 = .ok (.aload_n 0, 1) := by decide +kernel
theorem dX6_shape_42 : decode cX6_shape 42 = .ok (.getfield 30, 3) := by decide +kernel
theorem dX6_shape_45 : decode cX6_shape 45 = .ok (.invokevirtual 48, 3) := by decide +kernel
theorem dX6_shape_48 : decode cX6_shape 48 = .ok (.iconst 0, 1) := by decide +kernel
theorem dX6_shape_49 : decode cX6_shape 49 = .ok (.istore 4, 2) := by decide +kernel
theorem dX6_shape_51 : decode cX6_shape 51 = .ok (.iload 4, 2) := by decide +kernel
theorem dX6_shape_53 : decode cX6_shape 53 = .ok (.ldc 52, 2) := by decide +kernel
theorem dX6_shape_55 : decode cX6_shape 55 = .ok (.if_icmp .ge 76, 3) := by decide +kernel
theorem dX6_shape_58 : decode cX6_shape 58 = .ok (.aload_n 0, 1) := by decide +kernel
theorem dX6_shape_59 : decode cX6_shape 59 = .ok (.getfield 18, 3) := by decide +kernel
theorem dX6_shape_62 : decode cX6_shape 62 = .ok (.getfield 53, 3) := by decide +kernel
theorem dX6_shape_65 : decode cX6_shape 65 = .ok (.ifCond .ne 66, 3) := by decide +kernel
theorem dX6_shape_68 : decode cX6_shape 68 = .ok (.aload_n 0, 1) := by decide +kernel
theorem dX6_shape_69 : decode cX6_shape 69 = .ok (.getfield 9, 3) := by decide +kernel
theorem dX6_shape_72 : decode cX6_shape 72 = .ok (.aload_n 0, 1) := by decide +kernel
theorem dX6_shape_73 : decode cX6_shape 73 = .ok (.getfield 18, 3) := by decide +kernel
theorem dX6_shape_76 : decode cX6_shape 76 = .ok (.invokevirtual 57, 3) := by decide +kernel
theorem dX6_shape_79 : decode cX6_shape 79 = .ok (.dup2, 1) := by decide +kernel
theorem dX6_shape_80 : decode cX6_shape 80 = .ok (.iaload, 1) := by decide +kernel
theorem dX6_shape_81 : decode cX6_shape 81 = .ok (.iconst 1, 1) := by decide +kernel
theorem dX6_shape_82 : decode cX6_shape 82 = .ok (.iadd, 1) := by decide +kernel
theorem dX6_shape_83 : decode cX6_shape 83 = .ok (.iastore, 1) := by decide +kernel
theorem dX6_shape_84 : decode cX6_shape 84 = .ok (.aload_n 0, 1) := by decide +kernel
theorem dX6_shape_85 : decode cX6_shape 85 = .ok (.dup, 1) := by decide +kernel
theorem dX6_shape_86 : decode cX6_shape 86 = .ok (.getfield 39, 3) := by decide +kernel
theorem dX6_shape_89 : decode cX6_shape 89 = .ok (.iconst 1, 1) := by decide +kernel
theorem dX6_shape_90 : decode cX6_shape 90 = .ok (.iadd, 1) := by decide +kernel
theorem dX6_shape_91 : decode cX6_shape 91 = .ok (.putfield 39, 3) := by decide +kernel
theorem dX6_shape_94 : decode cX6_shape 94 = .ok (.aload_n 0, 1) := by decide +kernel
theorem dX6_shape_95 : decode cX6_shape 95 = .ok (.dup, 1) := by decide +kernel
theorem dX6_shape_96 : decode cX6_shape 96 = .ok (.getfield 36, 3) := by decide +kernel
theorem dX6_shape_99 : decode cX6_shape 99 = .ok (.aload_n 0, 1) := by decide +kernel
theorem dX6_shape_100 : decode cX6_shape 100 = .ok (.getfield 18, 3) := by decide +kernel
theorem dX6_shape_103 : decode cX6_shape 103 = .ok (.getfield 61, 3) := by decide +kernel
theorem dX6_shape_106 : decode cX6_shape 106 = .ok (.ifCond .eq 7, 3) := by decide +kernel
theorem dX6_shape_109 : decode cX6_shape 109 = .ok (.iconst 0, 1) := by decide +kernel
theorem dX6_shape_110 : decode cX6_shape 110 = .ok (.goto 4, 3) := by decide +kernel
theorem dX6_shape_113 : decode cX6_shape 113 = .ok (.iconst 1, 1) := by decide +kernel
theorem dX6_shape_114 : decode cX6_shape 114 = .ok (.iadd, 1) := by decide +kernel
theorem dX6_shape_115 : decode cX6_shape 115 = .ok (.putfield 36, 3) := by decide +kernel
theorem dX6_shape_118 : decode cX6_shape 118 = .ok (.aload_n 0, 1) := by decide +kernel
theorem dX6_shape_119 : decode cX6_shape 119 = .ok (.getfield 18, 3) := by decide +kernel
theorem dX6_shape_122 : decode cX6_shape 122 = .ok (.invokevirtual 64, 3) := by decide +kernel
theorem dX6_shape_125 : decode cX6_shape 125 = .ok (.iinc 4 1, 3) := by decide +kernel
theorem dX6_shape_128 : decode cX6_shape 128 = .ok (.goto (-77), 3) := by decide +kernel
theorem dX6_shape_131 : decode cX6_shape 131 = .ok (.return_, 1) := by decide +kernel
theorem dX6_drift_0 : decode cX6_drift 0 = .ok (.iconst 0, 1) := by decide +kernel
theorem dX6_drift_1 : decode cX6_drift 1 = .ok (.istore_n 2, 1) := by decide +kernel
theorem dX6_drift_2 : decode cX6_drift 2 = .ok (.iconst 0, 1) := by decide +kernel
theorem dX6_drift_3 : decode cX6_drift 3 = .ok (.istore_n 3, 1) := by decide +kernel
theorem dX6_drift_4 : decode cX6_drift 4 = .ok (.iload_n 3, 1) := by decide +kernel
theorem dX6_drift_5 : decode cX6_drift 5 = .ok (.iconst 4, 1) := by decide +kernel
theorem dX6_drift_6 : decode cX6_drift 6 = .ok (.if_icmp .ge 22, 3) := by decide +kernel
theorem dX6_drift_9 : decode cX6_drift 9 = .ok (.iload_n 2, 1) := by decide +kernel
theorem dX6_drift_10 : decode cX6_drift 10 = .ok (.aload_n 0, 1) := by decide +kernel
theorem dX6_drift_11 : decode cX6_drift 11 = .ok (.getfield 9, 3) := by decide +kernel
theorem dX6_drift_14 : decode cX6_drift 14 = .ok (.iload_n 3, 1) := by decide +kernel
theorem dX6_drift_15 : decode cX6_drift 15 = .ok (.iaload, 1) := by decide +kernel
theorem dX6_drift_16 : decode cX6_drift 16 = .ok (.aload_n 1, 1) := by decide +kernel
theorem dX6_drift_17 : decode cX6_drift 17 = .ok (.iload_n 3, 1) := by decide +kernel
theorem dX6_drift_18 : decode cX6_drift 18 = .ok (.iaload, 1) := by decide +kernel
theorem dX6_drift_19 : decode cX6_drift 19 = .ok (.imul, 1) := by decide +kernel
theorem dX6_drift_20 : decode cX6_drift 20 = .ok (.iadd, 1) := by decide +kernel
theorem dX6_drift_21 : decode cX6_drift 21 = .ok (.istore_n 2, 1) := by decide +kernel
theorem dX6_drift_22 : decode cX6_drift 22 = .ok (.iinc 3 1, 3) := by decide +kernel
theorem dX6_drift_25 : decode cX6_drift 25 = .ok (.goto (-21), 3) := by decide +kernel
theorem dX6_drift_28 : decode cX6_drift 28 = .ok (.iload_n 2, 1) := by decide +kernel
theorem dX6_drift_29 : decode cX6_drift 29 = .ok (.ireturn, 1) := by decide +kernel
theorem dX7_init_0 : decode cX7_init 0 = .ok (.aload_n 0, 1) := by decide +kernel
theorem dX7_init_1 : decode cX7_init 1 = .ok (.invokespecial 3, 3) := by decide +kernel
theorem dX7_init_4 : decode cX7_init 4 = .ok (.aload_n 0, 1) := by decide +kernel
theorem dX7_init_5 : decode cX7_init 5 = .ok (.iconst 0, 1) := by decide +kernel
theorem dX7_init_6 : decode cX7_init 6 = .ok (.putfield 9, 3) := by decide +kernel
theorem dX7_init_9 : decode cX7_init 9 = .ok (.aload_n 0, 1) := by decide +kernel
theorem dX7_init_10 : decode cX7_init 10 = .ok (.iconst 0, 1) := by decide +kernel
theorem dX7_init_11 : decode cX7_init 11 = .ok (.putfield 15, 3) := by decide +kernel
theorem dX7_init_14 : decode cX7_init 14 = .ok (.return_, 1) := by decide +kernel
theorem dX7_middleX_0 : decode cX7_middleX 0 = .ok (.aload_n 0, 1) := by decide +kernel
theorem dX7_middleX_1 : decode cX7_middleX 1 = .ok (.getfield 9, 3) := by decide +kernel
theorem dX7_middleX_4 : decode cX7_middleX 4 = .ok (.bipush 100, 2) := by decide +kernel
theorem dX7_middleX_6 : decode cX7_middleX 6 = .ok (.imul, 1) := by decide +kernel
theorem dX7_middleX_7 : decode cX7_middleX 7 = .ok (.bipush 50, 2) := by decide +kernel
theorem dX7_middleX_9 : decode cX7_middleX 9 = .ok (.iadd, 1) := by decide +kernel
theorem dX7_middleX_10 : decode cX7_middleX 10 = .ok (.ireturn, 1) := by decide +kernel
theorem dX7_middleY_0 : decode cX7_middleY 0 = .ok (.aload_n 0, 1) := by decide +kernel
theorem dX7_middleY_1 : decode cX7_middleY 1 = .ok (.getfield 15, 3) := by decide +kernel
theorem dX7_middleY_4 : decode cX7_middleY 4 = .ok (.bipush 100, 2) := by decide +kernel
theorem dX7_middleY_6 : decode cX7_middleY 6 = .ok (.imul, 1) := by decide +kernel
theorem dX7_middleY_7 : decode cX7_middleY 7 = .ok (.bipush 50, 2) := by decide +kernel
theorem dX7_middleY_9 : decode cX7_middleY 9 = .ok (.iadd, 1) := by decide +kernel
theorem dX7_middleY_10 : decode cX7_middleY 10 = .ok (.ireturn, 1) := by decide +kernel
theorem dX8_init_0 : decode cX8_init 0 = .ok (.aload_n 0, 1) := by decide +kernel
theorem dX8_init_1 : decode cX8_init 1 = .ok (.invokespecial 3, 3) := by decide +kernel
theorem dX8_init_4 : decode cX8_init 4 = .ok (.aload_n 0, 1) := by decide +kernel
theorem dX8_init_5 : decode cX8_init 5 = .ok (.iconst 4, 1) := by decide +kernel
theorem dX8_init_6 : decode cX8_init 6 = .ok (.newarray .int, 2) := by decide +kernel
theorem dX8_init_8 : decode cX8_init 8 = .ok (.putfield 9, 3) := by decide +kernel
theorem dX8_init_11 : decode cX8_init 11 = .ok (.aload_n 0, 1) := by decide +kernel
theorem dX8_init_12 : decode cX8_init 12 = .ok (.iconst 4, 1) := by decide +kernel
theorem dX8_init_13 : decode cX8_init 13 = .ok (.newarray .int, 2) := by decide +kernel
theorem dX8_init_15 : decode cX8_init 15 = .ok (.putfield 15, 3) := by decide +kernel
theorem dX8_init_18 : decode cX8_init 18 = .ok (.return_, 1) := by decide +kernel
set_option maxRecDepth 20000 in
theorem ggX9_init_X4_init : GoodIn wsX9_init wsX4_init := goodIn_r _ [43, 44, 2, 3, 31, 45, 46, 129, 130] (by decide +kernel) (by decide +kernel)
set_option maxRecDepth 20000 in
theorem gX9_init_X4_init_n9 : GoodIn wsX9_init (wsX4_init) := ggX9_init_X4_init
set_option maxRecDepth 20000 in
theorem ggX9_init_X8_init : GoodIn wsX9_init wsX8_init := goodIn_r _ [48, 49, 2, 3, 31, 50, 51, 146, 147] (by decide +kernel) (by decide +kernel)
set_option maxRecDepth 20000 in
theorem gX9_init_X8_init_n30 : GoodIn wsX9_init (wsX8_init) := ggX9_init_X8_init
set_option maxRecDepth 20000 in
theorem ggX9_init_X3_init : GoodIn wsX9_init wsX3_init := goodIn_r _ [53, 54, 2, 3, 55, 56, 57, 58, 59, 60, 61, 168, 169, 170, 171, 172, 148, 149, 150] (by decide +kernel) (by decide +kernel)
set_option maxRecDepth 20000 in
theorem gX9_init_X3_init_n37 : GoodIn wsX9_init (wsX3_init) := ggX9_init_X3_init
set_option maxRecDepth 20000 in
theorem ggX9_init_X0_init : GoodIn wsX9_init wsX0_init := goodIn_r _ [63, 64, 2, 3, 31, 65, 66, 67, 68, 151, 152, 153, 154] (by decide +kernel) (by decide +kernel)
set_option maxRecDepth 20000 in
theorem gX9_init_X0_init_n50 : GoodIn wsX9_init (wsX0_init) := ggX9_init_X0_init
set_option maxRecDepth 20000 in
theorem ggX9_init_X1_init : GoodIn wsX9_init wsX1_init := goodIn_r _ [70, 71, 2, 3, 72, 73, 31, 74, 75, 76, 155, 156, 157, 158] (by decide +kernel) (by decide +kernel)
set_option maxRecDepth 20000 in
theorem gX9_init_X1_init_n57 : GoodIn wsX9_init (wsX1_init) := ggX9_init_X1_init
set_option maxRecDepth 20000 in
theorem ggX9_init_X7_init : GoodIn wsX9_init wsX7_init := goodIn_r _ [78, 79, 2, 3, 80, 81, 159, 160] (by decide +kernel) (by decide +kernel)
set_option maxRecDepth 20000 in
theorem gX9_init_X7_init_n86 : GoodIn wsX9_init (wsX7_init) := ggX9_init_X7_init
set_option maxRecDepth 20000 in
theorem ggX9_init_X6_init : GoodIn wsX9_init wsX6_init := goodIn_r _ [84, 85, 2, 3, 31, 86, 87, 56, 57, 88, 59, 60, 61, 89, 90, 91, 41, 92, 93, 94, 95, 96, 97, 98, 99, 100, 101, 102, 103, 104, 105, 106, 107, 108, 109, 110, 111, 112, 113, 114, 115, 116, 117, 118, 119, 120, 121, 122, 123, 124, 125, 126, 127, 128, 161, 162, 163, 164, 165, 166, 167, 168, 169, 170, 171, 172] (by decide +kernel) (by decide +kernel)
set_option maxRecDepth 20000 in
theorem gX9_init_X6_init : GoodIn wsX9_init (wsX6_init) := ggX9_init_X6_init
theorem dX9_init_0 : decode cX9_init 0 = .ok (.aload_n 0, 1) := by decide +kernel
theorem dX9_init_1 : decode cX9_init 1 = .ok (.invokespecial 1, 3) := by decide +kernel
theorem dX9_init_4 : decode cX9_init 4 = .ok (.aload_n 0, 1) := by decide +kernel
theorem dX9_init_5 : decode cX9_init 5 = .ok (.new 7, 3) := by decide +kernel
theorem dX9_init_8 : decode cX9_init 8 = .ok (.dup, 1) := by decide +kernel
theorem dX9_init_9 : decode cX9_init 9 = .ok (.invokespecial 9, 3) := by decide +kernel
theorem dX9_init_12 : decode cX9_init 12 = .ok (.putfield 10, 3) := by decide +kernel
theorem dX9_init_15 : decode cX9_init 15 = .ok (.aload_n 0, 1) := by decide +kernel
theorem dX9_init_16 : decode cX9_init 16 = .ok (.bipush 6, 2) := by decide +kernel
theorem dX9_init_18 : decode cX9_init 18 = .ok (.anewarray 16, 3) := by decide +kernel
theorem dX9_init_21 : decode cX9_init 21 = .ok (.putfield 18, 3) := by decide +kernel
theorem dX9_init_24 : decode cX9_init 24 = .ok (.aload_n 0, 1) := by decide +kernel
theorem dX9_init_25 : decode cX9_init 25 = .ok (.iconst 4, 1) := by decide +kernel
theorem dX9_init_26 : decode cX9_init 26 = .ok (.anewarray 22, 3) := by decide +kernel
theorem dX9_init_29 : decode cX9_init 29 = .ok (.putfield 24, 3) := by decide +kernel
theorem dX9_init_32 : decode cX9_init 32 = .ok (.aload_n 0, 1) := by decide +kernel
theorem dX9_init_33 : decode cX9_init 33 = .ok (.new 28, 3) := by decide +kernel
theorem dX9_init_36 : decode cX9_init 36 = .ok (.dup, 1) := by decide +kernel
theorem dX9_init_37 : decode cX9_init 37 = .ok (.invokespecial 30, 3) := by decide +kernel
theorem dX9_init_40 : decode cX9_init 40 = .ok (.putfield 31, 3) := by decide +kernel
theorem dX9_init_43 : decode cX9_init 43 = .ok (.aload_n 0, 1) := by decide +kernel
theorem dX9_init_44 : decode cX9_init 44 = .ok (.new 35, 3) := by decide +kernel
theorem dX9_init_47 : decode cX9_init 47 = .ok (.dup, 1) := by decide +kernel
theorem dX9_init_48 : decode cX9_init 48 = .ok (.invokespecial 37, 3) := by decide +kernel
theorem dX9_init_51 : decode cX9_init 51 = .ok (.putfield 38, 3) := by decide +kernel
theorem dX9_init_54 : decode cX9_init 54 = .ok (.aload_n 0, 1) := by decide +kernel
theorem dX9_init_55 : decode cX9_init 55 = .ok (.bipush 40, 2) := by decide +kernel
theorem dX9_init_57 : decode cX9_init 57 = .ok (.anewarray 42, 3) := by decide +kernel
theorem dX9_init_60 : decode cX9_init 60 = .ok (.putfield 44, 3) := by decide +kernel
theorem dX9_init_63 : decode cX9_init 63 = .ok (.aload_n 0, 1) := by decide +kernel
theorem dX9_init_64 : decode cX9_init 64 = .ok (.new 48, 3) := by decide +kernel
theorem dX9_init_67 : decode cX9_init 67 = .ok (.dup, 1) := by decide +kernel
theorem dX9_init_68 : decode cX9_init 68 = .ok (.invokespecial 50, 3) := by decide +kernel
theorem dX9_init_71 : decode cX9_init 71 = .ok (.putfield 51, 3) := by decide +kernel
theorem dX9_init_74 : decode cX9_init 74 = .ok (.aload_n 0, 1) := by decide +kernel
theorem dX9_init_75 : decode cX9_init 75 = .ok (.new 55, 3) := by decide +kernel
theorem dX9_init_78 : decode cX9_init 78 = .ok (.dup, 1) := by decide +kernel
theorem dX9_init_79 : decode cX9_init 79 = .ok (.invokespecial 57, 3) := by decide +kernel
theorem dX9_init_82 : decode cX9_init 82 = .ok (.putfield 58, 3) := by decide +kernel
theorem dX9_init_85 : decode cX9_init 85 = .ok (.aload_n 0, 1) := by decide +kernel
theorem dX9_init_86 : decode cX9_init 86 = .ok (.bipush 40, 2) := by decide +kernel
theorem dX9_init_88 : decode cX9_init 88 = .ok (.anewarray 42, 3) := by decide +kernel
theorem dX9_init_91 : decode cX9_init 91 = .ok (.putfield 62, 3) := by decide +kernel
theorem dX9_init_94 : decode cX9_init 94 = .ok (.aload_n 0, 1) := by decide +kernel
theorem dX9_init_95 : decode cX9_init 95 = .ok (.bipush 10, 2) := by decide +kernel
theorem dX9_init_97 : decode cX9_init 97 = .ok (.newarray .int, 2) := by decide +kernel
theorem dX9_init_99 : decode cX9_init 99 = .ok (.putfield 65, 3) := by decide +kernel
theorem dX9_init_102 : decode cX9_init 102 = .ok (.aload_n 0, 1) := by decide +kernel
theorem dX9_init_103 : decode cX9_init 103 = .ok (.iconst 0, 1) := by decide +kernel
theorem dX9_init_104 : decode cX9_init 104 = .ok (.putfield 69, 3) := by decide +kernel
theorem dX9_init_107 : decode cX9_init 107 = .ok (.aload_n 0, 1) := by decide +kernel
theorem dX9_init_108 : decode cX9_init 108 = .ok (.iconst 0, 1) := by decide +kernel
theorem dX9_init_109 : decode cX9_init 109 = .ok (.putfield 73, 3) := by decide +kernel
theorem dX9_init_112 : decode cX9_init 112 = .ok (.aload_n 0, 1) := by decide +kernel
theorem dX9_init_113 : decode cX9_init 113 = .ok (.iconst 0, 1) := by decide +kernel
theorem dX9_init_114 : decode cX9_init 114 = .ok (.putfield 76, 3) := by decide +kernel
theorem dX9_init_117 : decode cX9_init 117 = .ok (.aload_n 0, 1) := by decide +kernel
theorem dX9_init_118 : decode cX9_init 118 = .ok (.bipush 20, 2) := by decide +kernel
theorem dX9_init_120 : decode cX9_init 120 = .ok (.putfield 79, 3) := by decide +kernel
theorem dX9_init_123 : decode cX9_init 123 = .ok (.aload_n 0, 1) := by decide +kernel
theorem dX9_init_124 : decode cX9_init 124 = .ok (.iconst 0, 1) := by decide +kernel
theorem dX9_init_125 : decode cX9_init 125 = .ok (.putfield 82, 3) := by decide +kernel
theorem dX9_init_128 : decode cX9_init 128 = .ok (.iconst 0, 1) := by decide +kernel
theorem dX9_init_129 : decode cX9_init 129 = .ok (.istore_n 1, 1) := by decide +kernel
theorem dX9_init_130 : decode cX9_init 130 = .ok (.iload_n 1, 1) := by decide +kernel
theorem dX9_init_131 : decode cX9_init 131 = .ok (.bipush 6, 2) := by decide +kernel
theorem dX9_init_133 : decode cX9_init 133 = .ok (.if_icmp .ge 22, 3) := by decide +kernel
theorem dX9_init_136 : decode cX9_init 136 = .ok (.aload_n 0, 1) := by decide +kernel
theorem dX9_init_137 : decode cX9_init 137 = .ok (.getfield 18, 3) := by decide +kernel
theorem dX9_init_140 : decode cX9_init 140 = .ok (.iload_n 1, 1) := by decide +kernel
theorem dX9_init_141 : decode cX9_init 141 = .ok (.new 16, 3) := by decide +kernel
theorem dX9_init_144 : decode cX9_init 144 = .ok (.dup, 1) := by decide +kernel
theorem dX9_init_145 : decode cX9_init 145 = .ok (.invokespecial 86, 3) := by decide +kernel
theorem dX9_init_148 : decode cX9_init 148 = .ok (.aastore, 1) := by decide +kernel
theorem dX9_init_149 : decode cX9_init 149 = .ok (.iinc 1 1, 3) := by decide +kernel
theorem dX9_init_152 : decode cX9_init 152 = .ok (.goto (-22), 3) := by decide +kernel
theorem dX9_init_155 : decode cX9_init 155 = .ok (.iconst 0, 1) := by decide +kernel
theorem dX9_init_156 : decode cX9_init 156 = .ok (.istore_n 1, 1) := by decide +kernel
theorem dX9_init_157 : decode cX9_init 157 = .ok (.iload_n 1, 1) := by decide +kernel
theorem dX9_init_158 : decode cX9_init 158 = .ok (.iconst 4, 1) := by decide +kernel
theorem dX9_init_159 : decode cX9_init 159 = .ok (.if_icmp .ge 22, 3) := by decide +kernel
theorem dX9_init_162 : decode cX9_init 162 = .ok (.aload_n 0, 1) := by decide +kernel
theorem dX9_init_163 : decode cX9_init 163 = .ok (.getfield 24, 3) := by decide +kernel
theorem dX9_init_166 : decode cX9_init 166 = .ok (.iload_n 1, 1) := by decide +kernel
theorem dX9_init_167 : decode cX9_init 167 = .ok (.new 22, 3) := by decide +kernel
theorem dX9_init_170 : decode cX9_init 170 = .ok (.dup, 1) := by decide +kernel
theorem dX9_init_171 : decode cX9_init 171 = .ok (.invokespecial 87, 3) := by decide +kernel
theorem dX9_init_174 : decode cX9_init 174 = .ok (.aastore, 1) := by decide +kernel
theorem dX9_init_175 : decode cX9_init 175 = .ok (.iinc 1 1, 3) := by decide +kernel
theorem dX9_init_178 : decode cX9_init 178 = .ok (.goto (-21), 3) := by decide +kernel
theorem dX9_init_181 : decode cX9_init 181 = .ok (.iconst 0, 1) := by decide +kernel
theorem dX9_init_182 : decode cX9_init 182 = .ok (.istore_n 1, 1) := by decide +kernel
theorem dX9_init_183 : decode cX9_init 183 = .ok (.iload_n 1, 1) := by decide +kernel
theorem dX9_init_184 : decode cX9_init 184 = .ok (.bipush 10, 2) := by decide +kernel
theorem dX9_init_186 : decode cX9_init 186 = .ok (.if_icmp .ge 16, 3) := by decide +kernel
theorem dX9_init_189 : decode cX9_init 189 = .ok (.aload_n 0, 1) := by decide +kernel
theorem dX9_init_190 : decode cX9_init 190 = .ok (.getfield 65, 3) := by decide +kernel
theorem dX9_init_193 : decode cX9_init 193 = .ok (.iload_n 1, 1) := by decide +kernel
theorem dX9_init_194 : decode cX9_init 194 = .ok (.iconst 1, 1) := by decide +kernel
theorem dX9_init_195 : decode cX9_init 195 = .ok (.iastore, 1) := by decide +kernel
theorem dX9_init_196 : decode cX9_init 196 = .ok (.iinc 1 1, 3) := by decide +kernel
theorem dX9_init_199 : decode cX9_init 199 = .ok (.goto (-16), 3) := by decide +kernel
theorem dX9_init_202 : decode cX9_init 202 = .ok (.return_, 1) := by decide +kernel
set_option maxRecDepth 20000 in
theorem ggX9_setRack_X9_outside : GoodIn wsX9_setRack wsX9_outside := goodIn_r _ [10] (by decide +kernel) (by decide +kernel)
set_option maxRecDepth 20000 in
theorem gX9_setRack_X9_outside : GoodIn wsX9_setRack (va_wsS RX9 88 yX9_outside wsX9_outside) := goodIn_app (goodIn_of _ (by decide +kernel)) ggX9_setRack_X9_outside
set_option maxRecDepth 20000 in
theorem ggX9_setRack_X9_offGround : GoodIn wsX9_setRack wsX9_offGround := goodIn_r _ [13, 7, 8, 9, 10] (by decide +kernel) (by decide +kernel)
set_option maxRecDepth 20000 in
theorem gX9_setRack_X9_offGround : GoodIn wsX9_setRack (va_wsS RX9 92 yX9_offGround wsX9_offGround) := goodIn_app (goodIn_of _ (by decide +kernel)) ggX9_setRack_X9_offGround
set_option maxRecDepth 20000 in
theorem ggX9_setRack_X9_zoneOf : GoodIn wsX9_setRack wsX9_zoneOf := goodIn_r _ [16] (by decide +kernel) (by decide +kernel)
set_option maxRecDepth 20000 in
theorem gX9_setRack_X9_zoneOf : GoodIn wsX9_setRack (va_wsS RX9 109 yX9_zoneOf wsX9_zoneOf) := goodIn_app (goodIn_of _ (by decide +kernel)) ggX9_setRack_X9_zoneOf
theorem dX9_setRack_0 : decode cX9_setRack 0 = .ok (.iload_n 1, 1) := by decide +kernel
theorem dX9_setRack_1 : decode cX9_setRack 1 = .ok (.iconst 0, 1) := by decide +kernel
theorem dX9_setRack_2 : decode cX9_setRack 2 = .ok (.iconst 5, 1) := by decide +kernel
theorem dX9_setRack_3 : decode cX9_setRack 3 = .ok (.invokestatic 88, 3) := by decide +kernel
theorem dX9_setRack_6 : decode cX9_setRack 6 = .ok (.ifCond .ne 11, 3) := by decide +kernel
theorem dX9_setRack_9 : decode cX9_setRack 9 = .ok (.iload_n 2, 1) := by decide +kernel
theorem dX9_setRack_10 : decode cX9_setRack 10 = .ok (.iload_n 3, 1) := by decide +kernel
theorem dX9_setRack_11 : decode cX9_setRack 11 = .ok (.invokestatic 92, 3) := by decide +kernel
theorem dX9_setRack_14 : decode cX9_setRack 14 = .ok (.ifCond .eq 13, 3) := by decide +kernel
theorem dX9_setRack_17 : decode cX9_setRack 17 = .ok (.new 96, 3) := by decide +kernel
theorem dX9_setRack_20 : decode cX9_setRack 20 = .ok (.dup, 1) := by decide +kernel
theorem dX9_setRack_21 : decode cX9_setRack 21 = .ok (.ldc 98, 2) := by decide +kernel
theorem dX9_setRack_23 : decode cX9_setRack 23 = .ok (.invokespecial 100, 3) := by decide +kernel
theorem dX9_setRack_26 : decode cX9_setRack 26 = .ok (.athrow, 1) := by decide +kernel
theorem dX9_setRack_27 : decode cX9_setRack 27 = .ok (.aload_n 0, 1) := by decide +kernel
theorem dX9_setRack_28 : decode cX9_setRack 28 = .ok (.getfield 18, 3) := by decide +kernel
theorem dX9_setRack_31 : decode cX9_setRack 31 = .ok (.iload_n 1, 1) := by decide +kernel
theorem dX9_setRack_32 : decode cX9_setRack 32 = .ok (.aaload, 1) := by decide +kernel
theorem dX9_setRack_33 : decode cX9_setRack 33 = .ok (.getfield 103, 3) := by decide +kernel
theorem dX9_setRack_36 : decode cX9_setRack 36 = .ok (.aload_n 0, 1) := by decide +kernel
theorem dX9_setRack_37 : decode cX9_setRack 37 = .ok (.getfield 18, 3) := by decide +kernel
theorem dX9_setRack_40 : decode cX9_setRack 40 = .ok (.iload_n 1, 1) := by decide +kernel
theorem dX9_setRack_41 : decode cX9_setRack 41 = .ok (.aaload, 1) := by decide +kernel
theorem dX9_setRack_42 : decode cX9_setRack 42 = .ok (.getfield 106, 3) := by decide +kernel
theorem dX9_setRack_45 : decode cX9_setRack 45 = .ok (.invokestatic 109, 3) := by decide +kernel
theorem dX9_setRack_48 : decode cX9_setRack 48 = .ok (.istore 4, 2) := by decide +kernel
theorem dX9_setRack_50 : decode cX9_setRack 50 = .ok (.aload_n 0, 1) := by decide +kernel
theorem dX9_setRack_51 : decode cX9_setRack 51 = .ok (.getfield 18, 3) := by decide +kernel
theorem dX9_setRack_54 : decode cX9_setRack 54 = .ok (.iload_n 1, 1) := by decide +kernel
theorem dX9_setRack_55 : decode cX9_setRack 55 = .ok (.aaload, 1) := by decide +kernel
theorem dX9_setRack_56 : decode cX9_setRack 56 = .ok (.iload_n 2, 1) := by decide +kernel
theorem dX9_setRack_57 : decode cX9_setRack 57 = .ok (.putfield 103, 3) := by decide +kernel
theorem dX9_setRack_60 : decode cX9_setRack 60 = .ok (.aload_n 0, 1) := by decide +kernel
theorem dX9_setRack_61 : decode cX9_setRack 61 = .ok (.getfield 18, 3) := by decide +kernel
theorem dX9_setRack_64 : decode cX9_setRack 64 = .ok (.iload_n 1, 1) := by decide +kernel
theorem dX9_setRack_65 : decode cX9_setRack 65 = .ok (.aaload, 1) := by decide +kernel
theorem dX9_setRack_66 : decode cX9_setRack 66 = .ok (.iload_n 3, 1) := by decide +kernel
theorem dX9_setRack_67 : decode cX9_setRack 67 = .ok (.putfield 106, 3) := by decide +kernel
theorem dX9_setRack_70 : decode cX9_setRack 70 = .ok (.aload_n 0, 1) := by decide +kernel
theorem dX9_setRack_71 : decode cX9_setRack 71 = .ok (.iconst 0, 1) := by decide +kernel
theorem dX9_setRack_72 : decode cX9_setRack 72 = .ok (.putfield 82, 3) := by decide +kernel
theorem dX9_setRack_75 : decode cX9_setRack 75 = .ok (.iload 4, 2) := by decide +kernel
theorem dX9_setRack_77 : decode cX9_setRack 77 = .ok (.ireturn, 1) := by decide +kernel
set_option maxRecDepth 20000 in
theorem ggX9_setShell_X9_outside : GoodIn wsX9_setShell wsX9_outside := goodIn_r _ [9] (by decide +kernel) (by decide +kernel)
set_option maxRecDepth 20000 in
theorem gX9_setShell_X9_outside : GoodIn wsX9_setShell (va_wsS RX9 88 yX9_outside wsX9_outside) := goodIn_app (goodIn_of _ (by decide +kernel)) ggX9_setShell_X9_outside
set_option maxRecDepth 20000 in
theorem ggX9_setShell_X6_shape : GoodIn wsX9_setShell wsX6_shape := goodIn_r _ [14, 15, 16, 17, 18, 19, 20, 21, 22, 23, 24, 25, 26, 27, 28, 29, 30, 31, 32, 33, 34, 35, 36, 37, 38, 39, 40, 41, 42, 43, 44, 45, 46, 47, 48, 49, 50, 51, 52, 53, 69, 70, 71, 72, 73, 74, 75, 76, 77, 78, 79, 80] (by decide +kernel) (by decide +kernel)
set_option maxRecDepth 20000 in
theorem gX9_setShell_X6_shape : GoodIn wsX9_setShell (wsV RX9 115 RX6 yX6_shape wsX6_shape) := goodIn_app (goodIn_of _ (by decide +kernel)) ggX9_setShell_X6_shape
theorem dX9_setShell_0 : decode cX9_setShell 0 = .ok (.iload_n 1, 1) := by decide +kernel
theorem dX9_setShell_1 : decode cX9_setShell 1 = .ok (.iconst 0, 1) := by decide +kernel
theorem dX9_setShell_2 : decode cX9_setShell 2 = .ok (.iconst 3, 1) := by decide +kernel
theorem dX9_setShell_3 : decode cX9_setShell 3 = .ok (.invokestatic 88, 3) := by decide +kernel
theorem dX9_setShell_6 : decode cX9_setShell 6 = .ok (.ifCond .ne 34, 3) := by decide +kernel
theorem dX9_setShell_9 : decode cX9_setShell 9 = .ok (.iload_n 2, 1) := by decide +kernel
theorem dX9_setShell_10 : decode cX9_setShell 10 = .ok (.iconst 1, 1) := by decide +kernel
theorem dX9_setShell_11 : decode cX9_setShell 11 = .ok (.sipush 200, 3) := by decide +kernel
theorem dX9_setShell_14 : decode cX9_setShell 14 = .ok (.invokestatic 88, 3) := by decide +kernel
theorem dX9_setShell_17 : decode cX9_setShell 17 = .ok (.ifCond .ne 23, 3) := by decide +kernel
theorem dX9_setShell_20 : decode cX9_setShell 20 = .ok (.iload_n 3, 1) := by decide +kernel
theorem dX9_setShell_21 : decode cX9_setShell 21 = .ok (.iconst 1, 1) := by decide +kernel
theorem dX9_setShell_22 : decode cX9_setShell 22 = .ok (.bipush 100, 2) := by decide +kernel
theorem dX9_setShell_24 : decode cX9_setShell 24 = .ok (.invokestatic 88, 3) := by decide +kernel
theorem dX9_setShell_27 : decode cX9_setShell 27 = .ok (.ifCond .ne 13, 3) := by decide +kernel
theorem dX9_setShell_30 : decode cX9_setShell 30 = .ok (.iload 4, 2) := by decide +kernel
theorem dX9_setShell_32 : decode cX9_setShell 32 = .ok (.iconst 0, 1) := by decide +kernel
theorem dX9_setShell_33 : decode cX9_setShell 33 = .ok (.iconst 3, 1) := by decide +kernel
theorem dX9_setShell_34 : decode cX9_setShell 34 = .ok (.invokestatic 88, 3) := by decide +kernel
theorem dX9_setShell_37 : decode cX9_setShell 37 = .ok (.ifCond .eq 13, 3) := by decide +kernel
theorem dX9_setShell_40 : decode cX9_setShell 40 = .ok (.new 96, 3) := by decide +kernel
theorem dX9_setShell_43 : decode cX9_setShell 43 = .ok (.dup, 1) := by decide +kernel
theorem dX9_setShell_44 : decode cX9_setShell 44 = .ok (.ldc 113, 2) := by decide +kernel
theorem dX9_setShell_46 : decode cX9_setShell 46 = .ok (.invokespecial 100, 3) := by decide +kernel
theorem dX9_setShell_49 : decode cX9_setShell 49 = .ok (.athrow, 1) := by decide +kernel
theorem dX9_setShell_50 : decode cX9_setShell 50 = .ok (.aload_n 0, 1) := by decide +kernel
theorem dX9_setShell_51 : decode cX9_setShell 51 = .ok (.getfield 24, 3) := by decide +kernel
theorem dX9_setShell_54 : decode cX9_setShell 54 = .ok (.iload_n 1, 1) := by decide +kernel
theorem dX9_setShell_55 : decode cX9_setShell 55 = .ok (.aaload, 1) := by decide +kernel
