theorem dL_sets_1041 : decode cL_sets 1041 = .ok (.aload 7, 2) := by decide +kernel
theorem dL_sets_1043 : decode cL_sets 1043 = .ok (.iconst 3, 1) := by decide +kernel
theorem dL_sets_1044 : decode cL_sets 1044 = .ok (.iaload, 1) := by decide +kernel
theorem dL_sets_1045 : decode cL_sets 1045 = .ok (.invokestatic 179, 3) := by decide +kernel
theorem dL_sets_1048 : decode cL_sets 1048 = .ok (.iload 13, 2) := by decide +kernel
theorem dL_sets_1050 : decode cL_sets 1050 = .ok (.if_icmp .ne 28, 3) := by decide +kernel
theorem dL_sets_1053 : decode cL_sets 1053 = .ok (.aload_n 0, 1) := by decide +kernel
theorem dL_sets_1054 : decode cL_sets 1054 = .ok (.bipush 21, 2) := by decide +kernel
theorem dL_sets_1056 : decode cL_sets 1056 = .ok (.invokestatic 179, 3) := by decide +kernel
theorem dL_sets_1059 : decode cL_sets 1059 = .ok (.ldc 18, 2) := by decide +kernel
theorem dL_sets_1061 : decode cL_sets 1061 = .ok (.if_icmp .ne 17, 3) := by decide +kernel
theorem dL_sets_1064 : decode cL_sets 1064 = .ok (.aload_n 0, 1) := by decide +kernel
theorem dL_sets_1065 : decode cL_sets 1065 = .ok (.iconst (-1), 1) := by decide +kernel
theorem dL_sets_1066 : decode cL_sets 1066 = .ok (.invokestatic 179, 3) := by decide +kernel
theorem dL_sets_1069 : decode cL_sets 1069 = .ok (.ldc 18, 2) := by decide +kernel
theorem dL_sets_1071 : decode cL_sets 1071 = .ok (.if_icmp .ne 7, 3) := by decide +kernel
theorem dL_sets_1074 : decode cL_sets 1074 = .ok (.iconst 1, 1) := by decide +kernel
theorem dL_sets_1075 : decode cL_sets 1075 = .ok (.goto 4, 3) := by decide +kernel
theorem dL_sets_1078 : decode cL_sets 1078 = .ok (.iconst 0, 1) := by decide +kernel
theorem dL_sets_1079 : decode cL_sets 1079 = .ok (.ireturn, 1) := by decide +kernel
theorem dL_sets_1080 : decode cL_sets 1080 = .ok (.aload 7, 2) := by decide +kernel
theorem dL_sets_1082 : decode cL_sets 1082 = .ok (.iconst 2, 1) := by decide +kernel
theorem dL_sets_1083 : decode cL_sets 1083 = .ok (.iaload, 1) := by decide +kernel
theorem dL_sets_1084 : decode cL_sets 1084 = .ok (.istore 13, 2) := by decide +kernel
theorem dL_sets_1086 : decode cL_sets 1086 = .ok (.aload 7, 2) := by decide +kernel
theorem dL_sets_1088 : decode cL_sets 1088 = .ok (.iconst 2, 1) := by decide +kernel
theorem dL_sets_1089 : decode cL_sets 1089 = .ok (.iconst 1, 1) := by decide +kernel
theorem dL_sets_1090 : decode cL_sets 1090 = .ok (.iload 9, 2) := by decide +kernel
theorem dL_sets_1092 : decode cL_sets 1092 = .ok (.bipush 100, 2) := by decide +kernel
theorem dL_sets_1094 : decode cL_sets 1094 = .ok (.invokestatic 149, 3) := by decide +kernel
theorem dL_sets_1097 : decode cL_sets 1097 = .ok (.iadd, 1) := by decide +kernel
theorem dL_sets_1098 : decode cL_sets 1098 = .ok (.iastore, 1) := by decide +kernel
theorem dL_sets_1099 : decode cL_sets 1099 = .ok (.aload_n 0, 1) := by decide +kernel
theorem dL_sets_1100 : decode cL_sets 1100 = .ok (.aload 7, 2) := by decide +kernel
theorem dL_sets_1102 : decode cL_sets 1102 = .ok (.iconst 2, 1) := by decide +kernel
theorem dL_sets_1103 : decode cL_sets 1103 = .ok (.iaload, 1) := by decide +kernel
theorem dL_sets_1104 : decode cL_sets 1104 = .ok (.invokestatic 181, 3) := by decide +kernel
theorem dL_sets_1107 : decode cL_sets 1107 = .ok (.iload 13, 2) := by decide +kernel
theorem dL_sets_1109 : decode cL_sets 1109 = .ok (.if_icmp .ne 28, 3) := by decide +kernel
theorem dL_sets_1112 : decode cL_sets 1112 = .ok (.aload_n 0, 1) := by decide +kernel
theorem dL_sets_1113 : decode cL_sets 1113 = .ok (.iconst 0, 1) := by decide +kernel
theorem dL_sets_1114 : decode cL_sets 1114 = .ok (.invokestatic 181, 3) := by decide +kernel
theorem dL_sets_1117 : decode cL_sets 1117 = .ok (.ldc 18, 2) := by decide +kernel
theorem dL_sets_1119 : decode cL_sets 1119 = .ok (.if_icmp .ne 18, 3) := by decide +kernel
theorem dL_sets_1122 : decode cL_sets 1122 = .ok (.aload_n 0, 1) := by decide +kernel
theorem dL_sets_1123 : decode cL_sets 1123 = .ok (.bipush 101, 2) := by decide +kernel
theorem dL_sets_1125 : decode cL_sets 1125 = .ok (.invokestatic 181, 3) := by decide +kernel
theorem dL_sets_1128 : decode cL_sets 1128 = .ok (.ldc 18, 2) := by decide +kernel
theorem dL_sets_1130 : decode cL_sets 1130 = .ok (.if_icmp .ne 7, 3) := by decide +kernel
theorem dL_sets_1133 : decode cL_sets 1133 = .ok (.iconst 1, 1) := by decide +kernel
theorem dL_sets_1134 : decode cL_sets 1134 = .ok (.goto 4, 3) := by decide +kernel
theorem dL_sets_1137 : decode cL_sets 1137 = .ok (.iconst 0, 1) := by decide +kernel
theorem dL_sets_1138 : decode cL_sets 1138 = .ok (.ireturn, 1) := by decide +kernel
set_option maxRecDepth 20000 in
theorem ggL_acts_L_low : GoodIn wsL_acts wsL_low := goodIn_r _ [7, 8] (by decide +kernel) (by decide +kernel)
set_option maxRecDepth 20000 in
theorem gL_acts_L_low : GoodIn wsL_acts (va_wsS RL 149 yL_low wsL_low) := goodIn_app (goodIn_of _ (by decide +kernel)) ggL_acts_L_low
set_option maxRecDepth 20000 in
theorem ggL_acts_L_cue : GoodIn wsL_acts wsL_cue := goodIn_ca (goodIn_ca (goodIn_r _ [11, 12, 13, 1, 3, 14, 15, 16, 17, 18, 19, 20, 21, 22, 23, 24, 25, 26, 27, 28, 29, 30, 31, 32, 33, 34, 35, 36, 37, 38, 39, 40, 41, 42, 43, 44, 45, 46, 47, 48, 49, 330, 331, 332, 333, 334, 335, 336, 337, 338, 339, 340, 341, 342, 343, 344, 345, 346, 347, 348, 349, 350, 351, 352, 353] (by decide +kernel) (by decide +kernel)) (goodIn_sub (fun _ h => List.mem_cons_of_mem _ (List.mem_append_left _ (List.mem_append_left _ (List.mem_append_right _ h)))) (by decide +kernel))) (goodIn_sub (fun _ h => List.mem_cons_of_mem _ (List.mem_append_left _ (List.mem_append_right _ h))) (by decide +kernel))
set_option maxRecDepth 20000 in
theorem gL_acts_L_cue : GoodIn wsL_acts (va_wsS RL 183 yL_cue wsL_cue) := goodIn_app (goodIn_of _ (by decide +kernel)) ggL_acts_L_cue
set_option maxRecDepth 20000 in
theorem ggL_acts_L_cut : GoodIn wsL_acts wsL_cut := goodIn_ca (goodIn_r _ [52, 53, 2, 54, 55, 56, 17, 57, 24, 58, 30, 31, 59, 60, 61, 62, 63, 64, 32, 33, 34, 330, 331, 332, 333, 334, 335, 336, 337, 338, 339, 340, 341, 342, 343, 344, 345, 346, 347, 348, 349, 350, 351, 352, 353] (by decide +kernel) (by decide +kernel)) (goodIn_sub (fun _ h => List.mem_cons_of_mem _ (List.mem_append_right _ h)) (by decide +kernel))
set_option maxRecDepth 20000 in
theorem gL_acts_L_cut : GoodIn wsL_acts (va_wsS RL 185 yL_cut wsL_cut) := goodIn_app (goodIn_of _ (by decide +kernel)) ggL_acts_L_cut
set_option maxRecDepth 20000 in
theorem ggL_acts_L_sets : GoodIn wsL_acts wsL_sets := goodIn_ca (goodIn_ca (goodIn_h (c := .code yL_sets cL_sets 17 (some .boolean)) (List.mem_cons_of_mem _ (List.mem_append_left _ (List.mem_append_left _ (List.mem_append_left _ (List.mem_append_left _ (List.mem_append_left _ (List.mem_append_left _ (List.mem_append_left _ (List.mem_append_left _ (List.mem_append_left _ (List.mem_append_left _ (List.mem_append_left _ (List.mem_append_left _ (List.mem_append_right _ (List.mem_append_right _ (List.mem_append_left _ ((List.mem_of_getElem? (i := 18) rfl)))))))))))))))))) (by decide +kernel) (goodIn_app (goodIn_app (goodIn_app (goodIn_app (goodIn_app (goodIn_app (goodIn_app (goodIn_app (goodIn_app (goodIn_app (goodIn_r wsL_sets_r1 [1, 68, 69, 70, 71, 72, 4, 5, 6, 7, 8, 73, 74, 75, 12, 76, 77, 78, 17, 79, 19, 20, 29, 80] (by decide +kernel) (by decide +kernel)) (goodIn_app (goodIn_r wsL_sets_r2 [81, 31, 32, 33, 34, 82, 83, 84, 85, 86, 87, 88, 89, 90, 91, 92, 93, 94, 28, 95, 96, 97, 98, 99] (by decide +kernel) (by decide +kernel)) (goodIn_app (goodIn_r wsL_sets_r3 [100, 101, 102, 103, 104, 105, 106, 107, 108, 109, 110, 111, 112, 113, 114, 115, 116, 117, 118, 119, 120, 121, 122, 123] (by decide +kernel) (by decide +kernel)) (goodIn_app (goodIn_r wsL_sets_r4 [124, 125, 126, 127, 128, 129, 130, 131, 132, 133, 134, 135, 136, 137, 138, 139, 140, 141, 142, 53, 2, 143, 144, 145] (by decide +kernel) (by decide +kernel)) (goodIn_app (goodIn_r wsL_sets_r5 [146, 147, 148, 149, 150, 151, 59, 60, 61, 62, 63, 64, 24, 152, 153, 154, 155, 156, 157, 158, 159, 160, 161, 162] (by decide +kernel) (by decide +kernel)) (goodIn_app (goodIn_r wsL_sets_r6 [163, 164, 165, 166, 167, 168, 169, 170, 171, 172, 173, 174, 175, 176, 177, 178, 179, 180, 181, 182, 183, 184, 185, 186] (by decide +kernel) (by decide +kernel)) (goodIn_app (goodIn_r wsL_sets_r7 [187, 188, 189, 190, 191, 192, 193, 194, 195, 196, 197, 198, 199, 200, 201, 202, 203, 204, 205, 206, 207, 208, 209, 210] (by decide +kernel) (by decide +kernel)) (goodIn_app (goodIn_r wsL_sets_r8 [211, 212, 213, 214, 215, 216, 217, 218, 219, 220, 221, 222, 223, 224, 225, 226, 227, 228, 229, 230, 231, 232, 233, 234] (by decide +kernel) (by decide +kernel)) (goodIn_app (goodIn_r wsL_sets_r9 [235, 236, 237, 238, 239, 58, 240, 241, 242, 243, 244, 245, 246, 247, 248, 249, 250, 251, 252, 253, 254, 255, 256, 257] (by decide +kernel) (by decide +kernel)) (goodIn_app (goodIn_r wsL_sets_r10 [258, 259, 260, 261, 262, 263, 264, 265, 266, 267, 268, 269, 270, 271, 272, 273, 274, 275, 276, 277, 278, 279, 280, 281] (by decide +kernel) (by decide +kernel)) (goodIn_app (goodIn_r wsL_sets_r11 [282, 283, 284, 285, 286, 287, 288, 289, 290, 291, 292, 293, 294, 295, 296, 297, 298, 299, 300, 301, 302, 303, 304, 305] (by decide +kernel) (by decide +kernel)) (goodIn_r wsL_sets_r12 [306, 307, 308, 309, 310, 311, 312, 313, 314, 315, 316, 317, 318, 319, 320, 321, 322, 323, 324, 325, 326, 327, 328, 329] (by decide +kernel) (by decide +kernel))))))))))))) (goodIn_r wsX90 [330, 331, 332, 333, 334, 335, 336, 337, 338, 339, 340, 341, 342, 343, 344] (by decide +kernel) (by decide +kernel))) (goodIn_r wsX70 [354, 355] (by decide +kernel) (by decide +kernel))) (goodIn_r wsX60 [356, 357, 358, 359, 360, 361, 362] (by decide +kernel) (by decide +kernel))) (goodIn_r wsX50 [363, 364, 365, 366, 367] (by decide +kernel) (by decide +kernel))) (goodIn_r wsX20 [345, 346, 347, 348, 349, 350, 351, 352, 353] (by decide +kernel) (by decide +kernel))) (goodIn_r wsX40 [368, 369] (by decide +kernel) (by decide +kernel))) (goodIn_r wsX80 [370, 371] (by decide +kernel) (by decide +kernel))) (goodIn_r wsX00 [372, 373, 374, 375] (by decide +kernel) (by decide +kernel))) (goodIn_r wsX10 [376, 377, 378, 379] (by decide +kernel) (by decide +kernel)))) (goodIn_sub (fun _ h => List.mem_cons_of_mem _ (List.mem_append_left _ (List.mem_append_left _ (List.mem_append_right _ h)))) (by decide +kernel))) (goodIn_sub (fun _ h => List.mem_cons_of_mem _ (List.mem_append_right _ h)) (by decide +kernel))
set_option maxRecDepth 20000 in
theorem gL_acts_L_sets : GoodIn wsL_acts (va_wsS RL 187 yL_sets wsL_sets) := goodIn_app (goodIn_of _ (by decide +kernel)) ggL_acts_L_sets
theorem dL_acts_0 : decode cL_acts 0 = .ok (.iload 8, 2) := by decide +kernel
theorem dL_acts_2 : decode cL_acts 2 = .ok (.bipush 16, 2) := by decide +kernel
theorem dL_acts_4 : decode cL_acts 4 = .ok (.invokestatic 149, 3) := by decide +kernel
theorem dL_acts_7 : decode cL_acts 7 = .ok (.istore 10, 2) := by decide +kernel
theorem dL_acts_9 : decode cL_acts 9 = .ok (.aload 7, 2) := by decide +kernel
theorem dL_acts_11 : decode cL_acts 11 = .ok (.iconst 0, 1) := by decide +kernel
theorem dL_acts_12 : decode cL_acts 12 = .ok (.iaload, 1) := by decide +kernel
theorem dL_acts_13 : decode cL_acts 13 = .ok (.iconst 4, 1) := by decide +kernel
theorem dL_acts_14 : decode cL_acts 14 = .ok (.if_icmp .lt 19, 3) := by decide +kernel
theorem dL_acts_17 : decode cL_acts 17 = .ok (.iload 10, 2) := by decide +kernel
theorem dL_acts_19 : decode cL_acts 19 = .ok (.bipush 6, 2) := by decide +kernel
theorem dL_acts_21 : decode cL_acts 21 = .ok (.if_icmp .ge 168, 3) := by decide +kernel
theorem dL_acts_24 : decode cL_acts 24 = .ok (.aload 7, 2) := by decide +kernel
theorem dL_acts_26 : decode cL_acts 26 = .ok (.iconst 0, 1) := by decide +kernel
theorem dL_acts_27 : decode cL_acts 27 = .ok (.iaload, 1) := by decide +kernel
theorem dL_acts_28 : decode cL_acts 28 = .ok (.bipush 40, 2) := by decide +kernel
theorem dL_acts_30 : decode cL_acts 30 = .ok (.if_icmp .ge 159, 3) := by decide +kernel
theorem dL_acts_33 : decode cL_acts 33 = .ok (.iload 9, 2) := by decide +kernel
theorem dL_acts_35 : decode cL_acts 35 = .ok (.iconst 4, 1) := by decide +kernel
theorem dL_acts_36 : decode cL_acts 36 = .ok (.invokestatic 149, 3) := by decide +kernel
theorem dL_acts_39 : decode cL_acts 39 = .ok (.ifCond .ne 15, 3) := by decide +kernel
theorem dL_acts_42 : decode cL_acts 42 = .ok (.iload 9, 2) := by decide +kernel
theorem dL_acts_44 : decode cL_acts 44 = .ok (.iconst 2, 1) := by decide +kernel
theorem dL_acts_45 : decode cL_acts 45 = .ok (.ishr, 1) := by decide +kernel
theorem dL_acts_46 : decode cL_acts 46 = .ok (.bipush 101, 2) := by decide +kernel
theorem dL_acts_48 : decode cL_acts 48 = .ok (.invokestatic 149, 3) := by decide +kernel
theorem dL_acts_51 : decode cL_acts 51 = .ok (.goto 12, 3) := by decide +kernel
theorem dL_acts_54 : decode cL_acts 54 = .ok (.iload 9, 2) := by decide +kernel
theorem dL_acts_56 : decode cL_acts 56 = .ok (.iconst 2, 1) := by decide +kernel
theorem dL_acts_57 : decode cL_acts 57 = .ok (.ishr, 1) := by decide +kernel
theorem dL_acts_58 : decode cL_acts 58 = .ok (.bipush 12, 2) := by decide +kernel
theorem dL_acts_60 : decode cL_acts 60 = .ok (.invokestatic 149, 3) := by decide +kernel
theorem dL_acts_63 : decode cL_acts 63 = .ok (.istore 11, 2) := by decide +kernel
theorem dL_acts_65 : decode cL_acts 65 = .ok (.iload 9, 2) := by decide +kernel
theorem dL_acts_67 : decode cL_acts 67 = .ok (.bipush 9, 2) := by decide +kernel
theorem dL_acts_69 : decode cL_acts 69 = .ok (.ishr, 1) := by decide +kernel
theorem dL_acts_70 : decode cL_acts 70 = .ok (.iconst 4, 1) := by decide +kernel
theorem dL_acts_71 : decode cL_acts 71 = .ok (.invokestatic 149, 3) := by decide +kernel
theorem dL_acts_74 : decode cL_acts 74 = .ok (.istore 12, 2) := by decide +kernel
theorem dL_acts_76 : decode cL_acts 76 = .ok (.iload 9, 2) := by decide +kernel
theorem dL_acts_78 : decode cL_acts 78 = .ok (.bipush 11, 2) := by decide +kernel
theorem dL_acts_80 : decode cL_acts 80 = .ok (.ishr, 1) := by decide +kernel
theorem dL_acts_81 : decode cL_acts 81 = .ok (.bipush 6, 2) := by decide +kernel
theorem dL_acts_83 : decode cL_acts 83 = .ok (.invokestatic 149, 3) := by decide +kernel
theorem dL_acts_86 : decode cL_acts 86 = .ok (.istore 13, 2) := by decide +kernel
theorem dL_acts_88 : decode cL_acts 88 = .ok (.aload_n 1, 1) := by decide +kernel
theorem dL_acts_89 : decode cL_acts 89 = .ok (.aload 7, 2) := by decide +kernel
theorem dL_acts_91 : decode cL_acts 91 = .ok (.iconst 0, 1) := by decide +kernel
theorem dL_acts_92 : decode cL_acts 92 = .ok (.iaload, 1) := by decide +kernel
theorem dL_acts_93 : decode cL_acts 93 = .ok (.iload 11, 2) := by decide +kernel
theorem dL_acts_95 : decode cL_acts 95 = .ok (.sipush 128, 3) := by decide +kernel
theorem dL_acts_98 : decode cL_acts 98 = .ok (.iload 12, 2) := by decide +kernel
theorem dL_acts_100 : decode cL_acts 100 = .ok (.imul, 1) := by decide +kernel
theorem dL_acts_101 : decode cL_acts 101 = .ok (.iadd, 1) := by decide +kernel
theorem dL_acts_102 : decode cL_acts 102 = .ok (.sipush 512, 3) := by decide +kernel
theorem dL_acts_105 : decode cL_acts 105 = .ok (.iload 13, 2) := by decide +kernel
theorem dL_acts_107 : decode cL_acts 107 = .ok (.imul, 1) := by decide +kernel
theorem dL_acts_108 : decode cL_acts 108 = .ok (.iadd, 1) := by decide +kernel
theorem dL_acts_109 : decode cL_acts 109 = .ok (.iastore, 1) := by decide +kernel
theorem dL_acts_110 : decode cL_acts 110 = .ok (.aload 7, 2) := by decide +kernel
theorem dL_acts_112 : decode cL_acts 112 = .ok (.iconst 0, 1) := by decide +kernel
theorem dL_acts_113 : decode cL_acts 113 = .ok (.dup2, 1) := by decide +kernel
theorem dL_acts_114 : decode cL_acts 114 = .ok (.iaload, 1) := by decide +kernel
theorem dL_acts_115 : decode cL_acts 115 = .ok (.iconst 1, 1) := by decide +kernel
theorem dL_acts_116 : decode cL_acts 116 = .ok (.iadd, 1) := by decide +kernel
theorem dL_acts_117 : decode cL_acts 117 = .ok (.iastore, 1) := by decide +kernel
theorem dL_acts_118 : decode cL_acts 118 = .ok (.aload 7, 2) := by decide +kernel
theorem dL_acts_120 : decode cL_acts 120 = .ok (.iconst 1, 1) := by decide +kernel
theorem dL_acts_121 : decode cL_acts 121 = .ok (.dup2, 1) := by decide +kernel
theorem dL_acts_122 : decode cL_acts 122 = .ok (.iaload, 1) := by decide +kernel
theorem dL_acts_123 : decode cL_acts 123 = .ok (.iconst 1, 1) := by decide +kernel
theorem dL_acts_124 : decode cL_acts 124 = .ok (.iadd, 1) := by decide +kernel
theorem dL_acts_125 : decode cL_acts 125 = .ok (.iastore, 1) := by decide +kernel
theorem dL_acts_126 : decode cL_acts 126 = .ok (.aload_n 0, 1) := by decide +kernel
theorem dL_acts_127 : decode cL_acts 127 = .ok (.iload 11, 2) := by decide +kernel
theorem dL_acts_129 : decode cL_acts 129 = .ok (.iload 12, 2) := by decide +kernel
theorem dL_acts_131 : decode cL_acts 131 = .ok (.iload 13, 2) := by decide +kernel
theorem dL_acts_133 : decode cL_acts 133 = .ok (.invokestatic 183, 3) := by decide +kernel
theorem dL_acts_136 : decode cL_acts 136 = .ok (.aload 7, 2) := by decide +kernel
theorem dL_acts_138 : decode cL_acts 138 = .ok (.iconst 0, 1) := by decide +kernel
theorem dL_acts_139 : decode cL_acts 139 = .ok (.iaload, 1) := by decide +kernel
theorem dL_acts_140 : decode cL_acts 140 = .ok (.iconst 1, 1) := by decide +kernel
theorem dL_acts_141 : decode cL_acts 141 = .ok (.isub, 1) := by decide +kernel
theorem dL_acts_142 : decode cL_acts 142 = .ok (.if_icmp .ne 45, 3) := by decide +kernel
theorem dL_acts_145 : decode cL_acts 145 = .ok (.aload_n 0, 1) := by decide +kernel
theorem dL_acts_146 : decode cL_acts 146 = .ok (.bipush 101, 2) := by decide +kernel
theorem dL_acts_148 : decode cL_acts 148 = .ok (.iconst 0, 1) := by decide +kernel
theorem dL_acts_149 : decode cL_acts 149 = .ok (.iconst 0, 1) := by decide +kernel
theorem dL_acts_150 : decode cL_acts 150 = .ok (.invokestatic 183, 3) := by decide +kernel
theorem dL_acts_153 : decode cL_acts 153 = .ok (.ldc 18, 2) := by decide +kernel
theorem dL_acts_155 : decode cL_acts 155 = .ok (.if_icmp .ne 32, 3) := by decide +kernel
theorem dL_acts_158 : decode cL_acts 158 = .ok (.aload_n 0, 1) := by decide +kernel
theorem dL_acts_159 : decode cL_acts 159 = .ok (.iconst 0, 1) := by decide +kernel
theorem dL_acts_160 : decode cL_acts 160 = .ok (.iconst 4, 1) := by decide +kernel
theorem dL_acts_161 : decode cL_acts 161 = .ok (.iconst 0, 1) := by decide +kernel
theorem dL_acts_162 : decode cL_acts 162 = .ok (.invokestatic 183, 3) := by decide +kernel
theorem dL_acts_165 : decode cL_acts 165 = .ok (.ldc 18, 2) := by decide +kernel
theorem dL_acts_167 : decode cL_acts 167 = .ok (.if_icmp .ne 20, 3) := by decide +kernel
theorem dL_acts_170 : decode cL_acts 170 = .ok (.aload_n 0, 1) := by decide +kernel
theorem dL_acts_171 : decode cL_acts 171 = .ok (.iconst 0, 1) := by decide +kernel
theorem dL_acts_172 : decode cL_acts 172 = .ok (.iconst 0, 1) := by decide +kernel
theorem dL_acts_173 : decode cL_acts 173 = .ok (.bipush 6, 2) := by decide +kernel
theorem dL_acts_175 : decode cL_acts 175 = .ok (.invokestatic 183, 3) := by decide +kernel
theorem dL_acts_178 : decode cL_acts 178 = .ok (.ldc 18, 2) := by decide +kernel
theorem dL_acts_180 : decode cL_acts 180 = .ok (.if_icmp .ne 7, 3) := by decide +kernel
theorem dL_acts_183 : decode cL_acts 183 = .ok (.iconst 1, 1) := by decide +kernel
theorem dL_acts_184 : decode cL_acts 184 = .ok (.goto 4, 3) := by decide +kernel
theorem dL_acts_187 : decode cL_acts 187 = .ok (.iconst 0, 1) := by decide +kernel
theorem dL_acts_188 : decode cL_acts 188 = .ok (.ireturn, 1) := by decide +kernel
theorem dL_acts_189 : decode cL_acts 189 = .ok (.iload 10, 2) := by decide +kernel
theorem dL_acts_191 : decode cL_acts 191 = .ok (.bipush 6, 2) := by decide +kernel
theorem dL_acts_193 : decode cL_acts 193 = .ok (.if_icmp .ne 141, 3) := by decide +kernel
theorem dL_acts_196 : decode cL_acts 196 = .ok (.iload 9, 2) := by decide +kernel
theorem dL_acts_198 : decode cL_acts 198 = .ok (.aload 7, 2) := by decide +kernel
theorem dL_acts_200 : decode cL_acts 200 = .ok (.iconst 0, 1) := by decide +kernel
theorem dL_acts_201 : decode cL_acts 201 = .ok (.iaload, 1) := by decide +kernel
theorem dL_acts_202 : decode cL_acts 202 = .ok (.invokestatic 149, 3) := by decide +kernel
theorem dL_acts_205 : decode cL_acts 205 = .ok (.istore 11, 2) := by decide +kernel
theorem dL_acts_207 : decode cL_acts 207 = .ok (.aload_n 1, 1) := by decide +kernel
theorem dL_acts_208 : decode cL_acts 208 = .ok (.iload 11, 2) := by decide +kernel
theorem dL_acts_210 : decode cL_acts 210 = .ok (.iaload, 1) := by decide +kernel
theorem dL_acts_211 : decode cL_acts 211 = .ok (.sipush 4096, 3) := by decide +kernel
theorem dL_acts_214 : decode cL_acts 214 = .ok (.if_icmp .ge 7, 3) := by decide +kernel
theorem dL_acts_217 : decode cL_acts 217 = .ok (.iconst 1, 1) := by decide +kernel
theorem dL_acts_218 : decode cL_acts 218 = .ok (.goto 4, 3) := by decide +kernel
theorem dL_acts_221 : decode cL_acts 221 = .ok (.iconst 0, 1) := by decide +kernel
theorem dL_acts_222 : decode cL_acts 222 = .ok (.istore 12, 2) := by decide +kernel
theorem dL_acts_224 : decode cL_acts 224 = .ok (.aload 7, 2) := by decide +kernel
theorem dL_acts_226 : decode cL_acts 226 = .ok (.iconst 1, 1) := by decide +kernel
theorem dL_acts_227 : decode cL_acts 227 = .ok (.dup2, 1) := by decide +kernel
theorem dL_acts_228 : decode cL_acts 228 = .ok (.iaload, 1) := by decide +kernel
theorem dL_acts_229 : decode cL_acts 229 = .ok (.iload 12, 2) := by decide +kernel
theorem dL_acts_231 : decode cL_acts 231 = .ok (.ifCond .eq 7, 3) := by decide +kernel
theorem dL_acts_234 : decode cL_acts 234 = .ok (.iconst 1, 1) := by decide +kernel
theorem dL_acts_235 : decode cL_acts 235 = .ok (.goto 4, 3) := by decide +kernel
theorem dL_acts_238 : decode cL_acts 238 = .ok (.iconst 0, 1) := by decide +kernel
theorem dL_acts_239 : decode cL_acts 239 = .ok (.isub, 1) := by decide +kernel
theorem dL_acts_240 : decode cL_acts 240 = .ok (.iastore, 1) := by decide +kernel
theorem dL_acts_241 : decode cL_acts 241 = .ok (.aload_n 1, 1) := by decide +kernel
theorem dL_acts_242 : decode cL_acts 242 = .ok (.iload 11, 2) := by decide +kernel
theorem dL_acts_244 : decode cL_acts 244 = .ok (.dup2, 1) := by decide +kernel
theorem dL_acts_245 : decode cL_acts 245 = .ok (.iaload, 1) := by decide +kernel
theorem dL_acts_246 : decode cL_acts 246 = .ok (.iload 12, 2) := by decide +kernel
theorem dL_acts_248 : decode cL_acts 248 = .ok (.ifCond .eq 9, 3) := by decide +kernel
theorem dL_acts_251 : decode cL_acts 251 = .ok (.sipush 4096, 3) := by decide +kernel
theorem dL_acts_254 : decode cL_acts 254 = .ok (.goto 4, 3) := by decide +kernel
theorem dL_acts_257 : decode cL_acts 257 = .ok (.iconst 0, 1) := by decide +kernel
theorem dL_acts_258 : decode cL_acts 258 = .ok (.iadd, 1) := by decide +kernel
theorem dL_acts_259 : decode cL_acts 259 = .ok (.iastore, 1) := by decide +kernel
theorem dL_acts_260 : decode cL_acts 260 = .ok (.aload_n 0, 1) := by decide +kernel
theorem dL_acts_261 : decode cL_acts 261 = .ok (.iload 11, 2) := by decide +kernel
theorem dL_acts_263 : decode cL_acts 263 = .ok (.invokestatic 185, 3) := by decide +kernel
theorem dL_acts_266 : decode cL_acts 266 = .ok (.iload 12, 2) := by decide +kernel
theorem dL_acts_268 : decode cL_acts 268 = .ok (.ifCond .eq 10, 3) := by decide +kernel
theorem dL_acts_271 : decode cL_acts 271 = .ok (.aload 7, 2) := by decide +kernel
theorem dL_acts_273 : decode cL_acts 273 = .ok (.iconst 1, 1) := by decide +kernel
theorem dL_acts_274 : decode cL_acts 274 = .ok (.iaload, 1) := by decide +kernel
theorem dL_acts_275 : decode cL_acts 275 = .ok (.goto 5, 3) := by decide +kernel
theorem dL_acts_278 : decode cL_acts 278 = .ok (.ldc 51, 2) := by decide +kernel
theorem dL_acts_280 : decode cL_acts 280 = .ok (.if_icmp .ne 52, 3) := by decide +kernel
theorem dL_acts_283 : decode cL_acts 283 = .ok (.aload_n 0, 1) := by decide +kernel
theorem dL_acts_284 : decode cL_acts 284 = .ok (.iload 11, 2) := by decide +kernel
theorem dL_acts_286 : decode cL_acts 286 = .ok (.invokestatic 185, 3) := by decide +kernel
theorem dL_acts_289 : decode cL_acts 289 = .ok (.ldc 51, 2) := by decide +kernel
theorem dL_acts_291 : decode cL_acts 291 = .ok (.if_icmp .ne 41, 3) := by decide +kernel
theorem dL_acts_294 : decode cL_acts 294 = .ok (.aload_n 0, 1) := by decide +kernel
theorem dL_acts_295 : decode cL_acts 295 = .ok (.aload 7, 2) := by decide +kernel
theorem dL_acts_297 : decode cL_acts 297 = .ok (.iconst 0, 1) := by decide +kernel
theorem dL_acts_298 : decode cL_acts 298 = .ok (.iaload, 1) := by decide +kernel
theorem dL_acts_299 : decode cL_acts 299 = .ok (.invokestatic 185, 3) := by decide +kernel
theorem dL_acts_302 : decode cL_acts 302 = .ok (.ldc 51, 2) := by decide +kernel
theorem dL_acts_304 : decode cL_acts 304 = .ok (.if_icmp .ne 28, 3) := by decide +kernel
theorem dL_acts_307 : decode cL_acts 307 = .ok (.aload 7, 2) := by decide +kernel
theorem dL_acts_309 : decode cL_acts 309 = .ok (.iconst 0, 1) := by decide +kernel
theorem dL_acts_310 : decode cL_acts 310 = .ok (.iaload, 1) := by decide +kernel
theorem dL_acts_311 : decode cL_acts 311 = .ok (.bipush 40, 2) := by decide +kernel
theorem dL_acts_313 : decode cL_acts 313 = .ok (.if_icmp .lt 15, 3) := by decide +kernel
theorem dL_acts_316 : decode cL_acts 316 = .ok (.aload_n 0, 1) := by decide +kernel
theorem dL_acts_317 : decode cL_acts 317 = .ok (.iconst 0, 1) := by decide +kernel
theorem dL_acts_318 : decode cL_acts 318 = .ok (.iconst 0, 1) := by decide +kernel
theorem dL_acts_319 : decode cL_acts 319 = .ok (.iconst 0, 1) := by decide +kernel
theorem dL_acts_320 : decode cL_acts 320 = .ok (.invokestatic 183, 3) := by decide +kernel
theorem dL_acts_323 : decode cL_acts 323 = .ok (.ldc 45, 2) := by decide +kernel
theorem dL_acts_325 : decode cL_acts 325 = .ok (.if_icmp .ne 7, 3) := by decide +kernel
theorem dL_acts_328 : decode cL_acts 328 = .ok (.iconst 1, 1) := by decide +kernel
theorem dL_acts_329 : decode cL_acts 329 = .ok (.goto 4, 3) := by decide +kernel
theorem dL_acts_332 : decode cL_acts 332 = .ok (.iconst 0, 1) := by decide +kernel
theorem dL_acts_333 : decode cL_acts 333 = .ok (.ireturn, 1) := by decide +kernel
theorem dL_acts_334 : decode cL_acts 334 = .ok (.aload_n 0, 1) := by decide +kernel
theorem dL_acts_335 : decode cL_acts 335 = .ok (.aload_n 1, 1) := by decide +kernel
theorem dL_acts_336 : decode cL_acts 336 = .ok (.aload_n 2, 1) := by decide +kernel
theorem dL_acts_337 : decode cL_acts 337 = .ok (.aload_n 3, 1) := by decide +kernel
theorem dL_acts_338 : decode cL_acts 338 = .ok (.aload 4, 2) := by decide +kernel
theorem dL_acts_340 : decode cL_acts 340 = .ok (.aload 5, 2) := by decide +kernel
theorem dL_acts_342 : decode cL_acts 342 = .ok (.aload 6, 2) := by decide +kernel
theorem dL_acts_344 : decode cL_acts 344 = .ok (.aload 7, 2) := by decide +kernel
theorem dL_acts_346 : decode cL_acts 346 = .ok (.iload 8, 2) := by decide +kernel
theorem dL_acts_348 : decode cL_acts 348 = .ok (.iconst 4, 1) := by decide +kernel
theorem dL_acts_349 : decode cL_acts 349 = .ok (.ishr, 1) := by decide +kernel
theorem dL_acts_350 : decode cL_acts 350 = .ok (.iload 9, 2) := by decide +kernel
theorem dL_acts_352 : decode cL_acts 352 = .ok (.invokestatic 187, 3) := by decide +kernel
theorem dL_acts_355 : decode cL_acts 355 = .ok (.ireturn, 1) := by decide +kernel
set_option maxRecDepth 20000 in
theorem ggL_law_X9_init : GoodIn wsL_law wsX9_init := goodIn_r _ [6, 7, 8, 9, 10, 11, 12, 13, 14, 15, 16, 17, 18, 19, 20, 21, 22, 23, 24, 25, 26, 27, 28, 29, 30, 31, 32, 33, 34, 35, 36, 3, 37, 38, 39, 40, 41, 42, 43, 44, 45, 46, 47, 48, 49, 50, 51, 52, 53, 54, 55, 56, 57, 58, 59, 60, 61, 62, 63, 64, 65, 66, 67, 68, 69, 70, 71, 72, 73, 74, 75, 76, 77, 78, 79, 80, 81, 82, 83, 84, 85, 86, 87, 88, 89, 90, 91, 92, 93, 94, 95, 96, 97, 98, 99, 100, 101, 102, 103, 104, 105, 106, 107, 108, 109, 110, 111, 112, 113, 114, 115, 116, 117, 118, 119, 120, 121, 122, 123, 124, 125, 126, 127, 128, 129, 130, 131, 132, 133, 582, 583, 567, 568, 569, 570, 571, 572, 573, 574, 575, 576, 577, 578, 579, 580, 581, 584, 585, 586, 587, 588, 589, 590, 591, 592, 593, 594, 595, 596, 597, 598, 599, 600, 601, 602, 603, 604, 605, 606, 607, 608, 609, 610] (by decide +kernel) (by decide +kernel)
set_option maxRecDepth 20000 in
theorem gL_law_X9_init : GoodIn wsL_law (wsX9_init) := ggL_law_X9_init
set_option maxRecDepth 20000 in
theorem ggL_law_X9_cues : GoodIn wsL_law wsX9_cues := goodIn_r _ [137, 39, 567, 568, 569, 570, 571, 572, 573, 574, 575, 576, 577, 578, 579, 580, 581] (by decide +kernel) (by decide +kernel)
set_option maxRecDepth 20000 in
theorem gL_law_X9_cues : GoodIn wsL_law (wsV RL 131 RX9 yX9_cues wsX9_cues) := goodIn_app (goodIn_of _ (by decide +kernel)) ggL_law_X9_cues
set_option maxRecDepth 20000 in
theorem ggL_law_X9_fired : GoodIn wsL_law wsX9_fired := goodIn_r _ [141, 40, 142, 143, 144, 2, 145, 42, 31, 27, 146, 147, 148, 149, 13, 150, 151, 152, 153, 154, 155, 156, 12, 157, 50, 158, 159, 160, 161, 162, 21, 163, 164, 165, 166, 44, 167, 85, 168, 169, 170, 46, 171, 91, 172, 173, 174, 175, 176, 177, 178, 179, 180, 181, 182, 183, 184, 86, 185, 186, 187, 188, 128, 125, 129, 189, 124, 126, 190, 191, 192, 193, 194, 195, 30, 196, 70, 71, 197, 198, 73, 72, 199, 107, 108, 109, 200, 201, 202, 203, 204, 205, 41, 206, 207, 208, 209, 210, 211, 212, 213, 36, 214, 215, 216, 217, 35, 218, 219, 220, 221, 34, 222, 79, 80, 223, 224, 225, 226, 227, 228, 229, 230, 231, 81, 78, 567, 568, 569, 570, 571, 572, 573, 574, 575, 576, 577, 578, 579, 580, 581, 611, 612, 613, 614, 615, 616, 617, 618, 619, 599, 600, 601, 602, 603, 604, 605, 582, 583, 584, 585, 597, 598, 589, 590, 591, 592, 593, 594, 595, 596] (by decide +kernel) (by decide +kernel)
set_option maxRecDepth 20000 in
theorem gL_law_X9_fired : GoodIn wsL_law (wsV RL 138 RX9 yX9_fired wsX9_fired) := goodIn_app (goodIn_of _ (by decide +kernel)) ggL_law_X9_fired
set_option maxRecDepth 20000 in
theorem ggL_law_X9_closed : GoodIn wsL_law wsX9_closed := goodIn_r _ [235, 31, 236, 142, 143, 144, 2, 145, 42, 27, 146, 147, 148, 149, 13, 150, 151, 152, 153, 154, 155, 156, 12, 157, 50, 158, 159, 160, 161, 162, 21, 163, 164, 165, 166, 44, 167, 85, 168, 169, 170, 46, 171, 91, 172, 173, 174, 175, 176, 177, 178, 179, 180, 181, 182, 183, 184, 86, 185, 186, 187, 188, 128, 125, 129, 189, 124, 126, 190, 191, 192, 193, 194, 195, 30, 196, 70, 71, 197, 198, 73, 72, 199, 107, 108, 109, 200, 201, 202, 203, 40, 204, 205, 41, 206, 207, 208, 209, 210, 211, 212, 213, 36, 214, 215, 216, 217, 35, 218, 219, 220, 221, 34, 222, 79, 80, 223, 224, 225, 226, 227, 228, 229, 230, 231, 81, 78, 567, 568, 569, 570, 571, 572, 573, 574, 575, 576, 577, 578, 579, 580, 581, 589, 590, 591, 592, 611, 612, 613, 614, 615, 616, 617, 618, 619, 599, 600, 601, 602, 603, 604, 605, 582, 583, 584, 585, 597, 598, 593, 594, 595, 596] (by decide +kernel) (by decide +kernel)
set_option maxRecDepth 20000 in
theorem gL_law_X9_closed : GoodIn wsL_law (wsV RL 127 RX9 yX9_closed wsX9_closed) := goodIn_app (goodIn_of _ (by decide +kernel)) ggL_law_X9_closed
set_option maxRecDepth 20000 in
theorem ggL_law_X9_spares : GoodIn wsL_law wsX9_spares := goodIn_r _ [240, 35, 142, 143, 144, 2, 145, 42, 31, 27, 146, 147, 148, 149, 13, 150, 151, 152, 153, 154, 155, 156, 12, 157, 50, 158, 159, 160, 161, 162, 21, 163, 164, 165, 166, 44, 167, 85, 168, 169, 170, 46, 171, 91, 172, 173, 174, 175, 176, 177, 178, 179, 180, 181, 182, 183, 184, 86, 185, 186, 187, 188, 128, 125, 129, 189, 124, 126, 190, 191, 192, 193, 194, 195, 30, 196, 70, 71, 197, 198, 73, 72, 199, 107, 108, 109, 200, 201, 202, 203, 40, 204, 205, 41, 206, 207, 208, 209, 210, 211, 212, 213, 36, 214, 215, 216, 217, 218, 219, 220, 221, 34, 222, 79, 80, 223, 224, 225, 226, 227, 228, 229, 230, 231, 81, 78, 241, 242, 243, 244, 567, 568, 569, 570, 571, 572, 573, 574, 575, 576, 577, 578, 579, 580, 581, 611, 612, 613, 614, 615, 616, 617, 618, 619, 599, 600, 601, 602, 603, 604, 605, 582, 583, 584, 585, 597, 598, 589, 590, 591, 592, 593, 594, 595, 596] (by decide +kernel) (by decide +kernel)
set_option maxRecDepth 20000 in
theorem gL_law_X9_spares : GoodIn wsL_law (wsV RL 141 RX9 yX9_spares wsX9_spares) := goodIn_app (goodIn_of _ (by decide +kernel)) ggL_law_X9_spares
set_option maxRecDepth 20000 in
theorem ggL_law_X9_total : GoodIn wsL_law wsX9_total := goodIn_r _ [248, 40, 36, 142, 143, 144, 2, 145, 42, 31, 27, 146, 147, 148, 149, 13, 150, 151, 152, 153, 154, 155, 156, 12, 157, 50, 158, 159, 160, 161, 162, 21, 163, 164, 165, 166, 44, 167, 85, 168, 169, 170, 46, 171, 91, 172, 173, 174, 175, 176, 177, 178, 179, 180, 181, 182, 183, 184, 86, 185, 186, 187, 188, 128, 125, 129, 189, 124, 126, 190, 191, 192, 193, 194, 195, 30, 196, 70, 71, 197, 198, 73, 72, 199, 107, 108, 109, 200, 201, 202, 203, 204, 205, 41, 206, 207, 208, 209, 210, 211, 212, 213, 214, 215, 216, 217, 35, 218, 219, 220, 221, 34, 222, 79, 80, 223, 224, 225, 226, 227, 228, 229, 230, 231, 81, 78, 249, 250, 251, 252, 37, 253, 254, 255, 256, 51, 257, 258, 259, 260, 567, 568, 569, 570, 571, 572, 573, 574, 575, 576, 577, 578, 579, 580, 581, 611, 612, 613, 614, 615, 616, 617, 618, 619, 599, 600, 601, 602, 603, 604, 605, 582, 583, 584, 585, 597, 598, 589, 590, 591, 592, 593, 594, 595, 596] (by decide +kernel) (by decide +kernel)
set_option maxRecDepth 20000 in
theorem gL_law_X9_total : GoodIn wsL_law (wsV RL 146 RX9 yX9_total wsX9_total) := goodIn_app (goodIn_of _ (by decide +kernel)) ggL_law_X9_total
set_option maxRecDepth 20000 in
theorem ggL_law_X9_peopled : GoodIn wsL_law wsX9_peopled := goodIn_r _ [264, 13, 154, 155, 156, 12, 157, 50, 265, 266, 267, 268, 269, 270, 271, 567, 568, 569, 570, 571, 572, 573, 574, 575, 576, 577, 578, 579, 580, 581, 582, 583] (by decide +kernel) (by decide +kernel)
set_option maxRecDepth 20000 in
theorem gL_law_X9_peopled : GoodIn wsL_law (wsV RL 166 RX9 yX9_peopled wsX9_peopled) := goodIn_app (goodIn_of _ (by decide +kernel)) ggL_law_X9_peopled
set_option maxRecDepth 20000 in
theorem ggL_law_L_at : GoodIn wsL_law wsL_at := goodIn_r _ [275, 276, 277] (by decide +kernel) (by decide +kernel)
set_option maxRecDepth 20000 in
theorem gL_law_L_at : GoodIn wsL_law (va_wsS RL 192 yL_at wsL_at) := goodIn_app (goodIn_of _ (by decide +kernel)) ggL_law_L_at
set_option maxRecDepth 20000 in
theorem ggL_law_L_acts : GoodIn wsL_law wsL_acts := goodIn_ca (goodIn_ca (goodIn_ca (goodIn_h (c := .code yL_acts cL_acts 14 (some .boolean)) (List.mem_of_getElem? (i := 280) (by decide +kernel)) (by decide +kernel) (goodIn_app (goodIn_app (goodIn_app (goodIn_app (goodIn_app (goodIn_app (goodIn_app (goodIn_app (goodIn_app (goodIn_app (goodIn_r wsL_acts_r1 [281, 282, 283, 284, 285, 274, 286, 287, 288, 289, 290, 291, 292, 293, 294, 295, 2, 296, 297, 298, 299, 300, 38, 27] (by decide +kernel) (by decide +kernel)) (goodIn_app (goodIn_r wsL_acts_r2 [26, 301, 302, 17, 15, 39, 42, 303, 304, 305, 306, 307, 308, 309, 8, 9, 310, 311, 312, 313, 314, 315, 316, 317] (by decide +kernel) (by decide +kernel)) (goodIn_app (show GoodIn wsL_law (([Cond.fieldLink RX2 38 "MortarShow$Cue" "rack" "LMortarShow$Rack;", Cond.methodLink RL 185 yL_cut, Cond.static yL_cut, Cond.codeWith yL_cut cL_cut 3 (some .int) [(0, 5, 6, 49)], Cond.classLink RL 49 "java/lang/IndexOutOfBoundsException", Cond.methodLink RL 46 yX9_cut, Cond.instanceMethod yX9_cut, Cond.selects RX9 yX9_cut yX9_cut, Cond.code yX9_cut cX9_cut 3 (some .int), Cond.fieldLink RX9 180 "MortarShow$Cue" "number" "I", Cond.methodLink RX9 176 yX9_found, Cond.instanceMethod yX9_found, Cond.selects RX9 yX9_found yX9_found, Cond.code yX9_found cX9_found 2 (some (.object "MortarShow$Cue")), Cond.classLink RX9 253 "java/lang/IndexOutOfBoundsException", Cond.initialized "java/lang/IndexOutOfBoundsException", Cond.methodLink RL 187 yL_sets, Cond.static yL_sets] : List Cond) ++ (Cond.code yL_sets cL_sets 17 (some .boolean) :: ([Cond.arrayClass .int, Cond.constant RL 169 (100000000), Cond.constant RL 172 (100000001), Cond.constant RL 173 (100000), Cond.constant RL 176 (100001)] : List Cond))) from goodIn_app (goodIn_r ([Cond.fieldLink RX2 38 "MortarShow$Cue" "rack" "LMortarShow$Rack;", Cond.methodLink RL 185 yL_cut, Cond.static yL_cut, Cond.codeWith yL_cut cL_cut 3 (some .int) [(0, 5, 6, 49)], Cond.classLink RL 49 "java/lang/IndexOutOfBoundsException", Cond.methodLink RL 46 yX9_cut, Cond.instanceMethod yX9_cut, Cond.selects RX9 yX9_cut yX9_cut, Cond.code yX9_cut cX9_cut 3 (some .int), Cond.fieldLink RX9 180 "MortarShow$Cue" "number" "I", Cond.methodLink RX9 176 yX9_found, Cond.instanceMethod yX9_found, Cond.selects RX9 yX9_found yX9_found, Cond.code yX9_found cX9_found 2 (some (.object "MortarShow$Cue")), Cond.classLink RX9 253 "java/lang/IndexOutOfBoundsException", Cond.initialized "java/lang/IndexOutOfBoundsException", Cond.methodLink RL 187 yL_sets, Cond.static yL_sets] : List Cond) [318, 319, 320, 321, 322, 323, 324, 325, 326, 218, 327, 328, 329, 330, 331, 332, 333, 334] (by decide +kernel) (by decide +kernel)) (goodIn_h (c := Cond.code yL_sets cL_sets 17 (some .boolean)) (List.mem_append_left _ (List.mem_append_left _ (List.mem_append_left _ (List.mem_append_left _ (List.mem_append_left _ (List.mem_append_left _ (List.mem_append_left _ (List.mem_append_left _ (List.mem_append_left _ (List.mem_append_left _ (List.mem_append_left _ (List.mem_append_left _ (List.mem_append_left _ (List.mem_append_left _ (List.mem_append_right _ (List.mem_append_right _ (List.mem_append_right _ (List.mem_append_right _ (List.mem_append_right _ (List.mem_append_right _ (List.mem_append_right _ (List.mem_append_right _ (List.mem_append_right _ (List.mem_append_right _ (List.mem_append_right _ (List.mem_append_right _ (List.mem_append_right _ (List.mem_append_left _ ((List.mem_of_getElem? (i := 23) rfl)))))))))))))))))))))))))))))) (by decide +kernel) (goodIn_r ([Cond.arrayClass .int, Cond.constant RL 169 (100000000), Cond.constant RL 172 (100000001), Cond.constant RL 173 (100000), Cond.constant RL 176 (100001)] : List Cond) [3, 336, 337, 338, 339] (by decide +kernel) (by decide +kernel)))) (goodIn_app (goodIn_r wsL_acts_r4 [340, 341, 342, 343, 344, 345, 346, 347, 348, 349, 350, 351, 190, 191, 192, 352, 353, 354, 355, 356, 357, 358, 207, 359] (by decide +kernel) (by decide +kernel)) (goodIn_app (goodIn_r wsL_acts_r5 [95, 96, 46, 97, 98, 99, 100, 101, 102, 91, 93, 103, 104, 105, 106, 107, 108, 109, 110, 111, 112, 62, 113, 114] (by decide +kernel) (by decide +kernel)) (goodIn_app (goodIn_r wsL_acts_r6 [115, 116, 117, 118, 119, 120, 121, 122, 123, 124, 125, 126, 127, 128, 129, 130, 131, 132, 133, 360, 361, 362, 363, 364] (by decide +kernel) (by decide +kernel)) (goodIn_app (goodIn_r wsL_acts_r7 [365, 366, 153, 367, 368, 369, 370, 142, 143, 144, 145, 31, 146, 147, 148, 149, 13, 150, 151, 152, 154, 155, 156, 12] (by decide +kernel) (by decide +kernel)) (goodIn_app (goodIn_r wsL_acts_r8 [157, 50, 158, 159, 160, 161, 162, 21, 163, 164, 165, 166, 44, 167, 85, 168, 169, 170, 171, 172, 173, 174, 175, 176] (by decide +kernel) (by decide +kernel)) (goodIn_app (goodIn_r wsL_acts_r9 [177, 178, 179, 180, 181, 182, 183, 184, 86, 185, 186, 187, 188, 189, 193, 194, 195, 30, 196, 70, 71, 197, 198, 73] (by decide +kernel) (by decide +kernel)) (goodIn_app (goodIn_r wsL_acts_r10 [72, 199, 200, 201, 202, 203, 40, 204, 205, 41, 206, 208, 209, 210, 211, 212, 213, 36, 214, 215, 216, 217, 35, 219] (by decide +kernel) (by decide +kernel)) (goodIn_app (goodIn_r wsL_acts_r11 [220, 221, 34, 222, 79, 80, 223, 224, 225, 226, 227, 228, 229, 230, 231, 81, 78, 371, 372, 373, 374, 375, 376, 377] (by decide +kernel) (by decide +kernel)) (goodIn_app (goodIn_r wsL_acts_r12 [378, 379, 380, 381, 382, 265, 266, 267, 268, 269, 270, 271, 383, 384, 385, 386, 387, 388, 389, 390, 261, 262, 263, 264] (by decide +kernel) (by decide +kernel)) (goodIn_app (goodIn_r wsL_acts_r13 [391, 392, 393, 394, 395, 396, 397, 398, 399, 400, 401, 402, 403, 404, 405, 406, 407, 37, 408, 409, 410, 411, 412, 413] (by decide +kernel) (by decide +kernel)) (goodIn_r wsL_acts_r14 [414, 415, 416, 417, 418, 419, 420, 421, 422, 423, 424, 425, 426, 427, 428, 429, 430] (by decide +kernel) (by decide +kernel))))))))))))))) (goodIn_r wsX90 [567, 568, 569, 570, 571, 572, 573, 574, 575, 576, 577, 578, 579, 580, 581] (by decide +kernel) (by decide +kernel))) (goodIn_r wsX20 [611, 612, 613, 614, 615, 616, 617, 618, 619] (by decide +kernel) (by decide +kernel))) (goodIn_r wsX70 [597, 598] (by decide +kernel) (by decide +kernel))) (goodIn_r wsX60 [599, 600, 601, 602, 603, 604, 605] (by decide +kernel) (by decide +kernel))) (goodIn_r wsX50 [606, 607, 608, 609, 610] (by decide +kernel) (by decide +kernel))) (goodIn_r wsX40 [582, 583] (by decide +kernel) (by decide +kernel))) (goodIn_r wsX80 [584, 585] (by decide +kernel) (by decide +kernel))) (goodIn_r wsX00 [589, 590, 591, 592] (by decide +kernel) (by decide +kernel))) (goodIn_r wsX10 [593, 594, 595, 596] (by decide +kernel) (by decide +kernel)))) (goodIn_sub (fun _ h => List.mem_append_left _ (List.mem_append_left _ (List.mem_append_right _ h))) (by decide +kernel))) (goodIn_sub (fun _ h => List.mem_append_left _ (List.mem_append_right _ h)) (by decide +kernel))) (goodIn_sub (fun _ h => List.mem_append_right _ h) (by decide +kernel))
set_option maxRecDepth 20000 in
theorem gL_law_L_acts : GoodIn wsL_law (va_wsS RL 196 yL_acts wsL_acts) := goodIn_app (goodIn_of _ (by decide +kernel)) ggL_law_L_acts
set_option maxRecDepth 20000 in
theorem ggL_law_L_low : GoodIn wsL_law wsL_low := goodIn_r _ [286, 287] (by decide +kernel) (by decide +kernel)
set_option maxRecDepth 20000 in
theorem gL_law_L_low : GoodIn wsL_law (va_wsS RL 149 yL_low wsL_low) := goodIn_app (goodIn_of _ (by decide +kernel)) ggL_law_L_low
set_option maxRecDepth 20000 in
theorem ggL_law_L_isCue : GoodIn wsL_law wsL_isCue := goodIn_ca (goodIn_ca (goodIn_h (c := .code yL_isCue cL_isCue 15 (some .boolean)) (List.mem_append_left _ (List.mem_append_left _ (List.mem_append_left _ (List.mem_append_left _ (List.mem_append_left _ (List.mem_append_left _ (List.mem_append_left _ (List.mem_append_left _ (List.mem_append_left _ (List.mem_append_left _ (List.mem_append_left _ (List.mem_append_left _ (List.mem_append_left _ (List.mem_append_left _ (List.mem_append_right _ (List.mem_append_right _ (List.mem_append_right _ (List.mem_append_right _ (List.mem_append_right _ (List.mem_append_right _ (List.mem_append_right _ (List.mem_append_right _ (List.mem_append_right _ (List.mem_append_right _ (List.mem_append_right _ (List.mem_append_right _ (List.mem_append_right _ (List.mem_append_right _ (List.mem_append_right _ (List.mem_append_right _ (List.mem_append_right _ (List.mem_append_right _ (List.mem_append_left _ ((List.mem_of_getElem? (i := 1) rfl))))))))))))))))))))))))))))))))))) (by decide +kernel) (goodIn_app (goodIn_app (goodIn_app (goodIn_app (goodIn_app (goodIn_app (goodIn_app (goodIn_app (goodIn_app (goodIn_app (goodIn_app (goodIn_r wsL_isCue_r1 [282, 434, 281, 360, 361, 274, 362, 322, 363, 364, 365, 2, 366, 153, 367, 368, 369, 370, 327, 328, 329, 330, 331, 332] (by decide +kernel) (by decide +kernel)) (goodIn_app (goodIn_r wsL_isCue_r2 [27, 303, 304, 305, 142, 143, 144, 145, 42, 31, 146, 147, 148, 149, 13, 150, 151, 152, 154, 155, 156, 12, 157, 50] (by decide +kernel) (by decide +kernel)) (goodIn_app (goodIn_r wsL_isCue_r3 [158, 159, 160, 161, 162, 21, 163, 164, 165, 166, 44, 167, 85, 168, 169, 170, 46, 171, 91, 172, 173, 174, 175, 176] (by decide +kernel) (by decide +kernel)) (goodIn_app (goodIn_r wsL_isCue_r4 [177, 178, 179, 180, 181, 182, 183, 184, 86, 185, 186, 187, 188, 128, 125, 129, 189, 124, 126, 190, 191, 192, 193, 194] (by decide +kernel) (by decide +kernel)) (goodIn_app (goodIn_r wsL_isCue_r5 [195, 30, 196, 70, 71, 197, 198, 73, 72, 199, 107, 108, 109, 200, 201, 202, 203, 40, 204, 205, 41, 206, 207, 208] (by decide +kernel) (by decide +kernel)) (goodIn_app (goodIn_r wsL_isCue_r6 [209, 210, 211, 212, 213, 36, 214, 215, 216, 217, 35, 218, 219, 220, 221, 34, 222, 79, 80, 223, 224, 225, 226, 227] (by decide +kernel) (by decide +kernel)) (goodIn_app (goodIn_r wsL_isCue_r7 [228, 229, 230, 231, 81, 78, 435, 436, 437, 438, 439, 440, 441, 442, 443, 444, 445, 446, 447, 448, 449, 450, 451, 291] (by decide +kernel) (by decide +kernel)) (goodIn_app (goodIn_r wsL_isCue_r8 [452, 453, 454, 455, 297, 298, 456, 457, 458, 459, 460, 461, 462, 463, 464, 465, 25, 466, 467, 468, 469, 470, 471, 472] (by decide +kernel) (by decide +kernel)) (goodIn_app (goodIn_r wsL_isCue_r9 [473, 24, 474, 63, 475, 476, 477, 478, 479, 111, 112, 62, 113, 114, 115, 116, 117, 118, 480, 481, 482, 483, 484, 485] (by decide +kernel) (by decide +kernel)) (goodIn_app (goodIn_r wsL_isCue_r10 [486, 487, 488, 120, 121, 122, 123, 127, 489, 131, 132, 133, 490, 491, 492, 493, 494, 495, 496, 497, 498, 499, 500, 501] (by decide +kernel) (by decide +kernel)) (goodIn_app (goodIn_r wsL_isCue_r11 [502, 503, 504, 505, 506, 507, 508, 509, 510, 511, 512, 513, 514, 515, 516, 517, 518, 519, 249, 250, 251, 252, 37, 253] (by decide +kernel) (by decide +kernel)) (goodIn_r wsL_isCue_r12 [254, 255, 256, 51, 257, 258, 259, 260, 520, 521, 522] (by decide +kernel) (by decide +kernel))))))))))))) (goodIn_r wsX20 [611, 612, 613, 614, 615, 616, 617, 618, 619] (by decide +kernel) (by decide +kernel))) (goodIn_r wsX90 [567, 568, 569, 570, 571, 572, 573, 574, 575, 576, 577, 578, 579, 580, 581] (by decide +kernel) (by decide +kernel))) (goodIn_r wsX60 [599, 600, 601, 602, 603, 604, 605] (by decide +kernel) (by decide +kernel))) (goodIn_r wsX40 [582, 583] (by decide +kernel) (by decide +kernel))) (goodIn_r wsX80 [584, 585] (by decide +kernel) (by decide +kernel))) (goodIn_r wsX70 [597, 598] (by decide +kernel) (by decide +kernel))) (goodIn_r wsX00 [589, 590, 591, 592] (by decide +kernel) (by decide +kernel))) (goodIn_r wsX10 [593, 594, 595, 596] (by decide +kernel) (by decide +kernel))) (goodIn_r wsX30 [586, 587, 588] (by decide +kernel) (by decide +kernel))) (goodIn_r wsX50 [606, 607, 608, 609, 610] (by decide +kernel) (by decide +kernel)))) (goodIn_sub (fun _ h => List.mem_append_right _ h) (by decide +kernel))) (goodIn_sub (fun _ h => List.mem_append_left _ (List.mem_append_left _ (List.mem_append_right _ h))) (by decide +kernel))
set_option maxRecDepth 20000 in
theorem gL_law_L_isCue : GoodIn wsL_law (va_wsS RL 199 yL_isCue wsL_isCue) := goodIn_app (goodIn_of _ (by decide +kernel)) ggL_law_L_isCue
set_option maxRecDepth 20000 in
theorem ggL_law_L_areShells : GoodIn wsL_law wsL_areShells := goodIn_ca (goodIn_r _ [525, 281, 284, 285, 274, 286, 287, 526, 527, 528, 291, 529, 530, 531, 2, 532, 297, 298, 17, 533, 303, 304, 305, 534, 535, 536, 537, 538, 539, 540, 541, 567, 568, 569, 570, 571, 572, 573, 574, 575, 576, 577, 578, 579, 580, 581, 599, 600, 601, 602, 603, 604, 605] (by decide +kernel) (by decide +kernel)) (goodIn_sub (fun _ h => List.mem_append_left _ (List.mem_append_left _ (List.mem_append_right _ h))) (by decide +kernel))
set_option maxRecDepth 20000 in
theorem gL_law_L_areShells : GoodIn wsL_law (va_wsS RL 203 yL_areShells wsL_areShells) := goodIn_app (goodIn_of _ (by decide +kernel)) ggL_law_L_areShells
set_option maxRecDepth 20000 in
theorem ggL_law_L_isClosed : GoodIn wsL_law wsL_isClosed := goodIn_ca (goodIn_r _ [544, 360, 361, 274, 362, 322, 282, 363, 364, 365, 2, 366, 153, 367, 368, 369, 370, 327, 328, 329, 330, 331, 332, 27, 303, 304, 305, 142, 143, 144, 145, 42, 31, 146, 147, 148, 149, 13, 150, 151, 152, 154, 155, 156, 12, 157, 50, 158, 159, 160, 161, 162, 21, 163, 164, 165, 166, 44, 167, 85, 168, 169, 170, 46, 171, 91, 172, 173, 174, 175, 176, 177, 178, 179, 180, 181, 182, 183, 184, 86, 185, 186, 187, 188, 128, 125, 129, 189, 124, 126, 190, 191, 192, 193, 194, 195, 30, 196, 70, 71, 197, 198, 73, 72, 199, 107, 108, 109, 200, 201, 202, 203, 40, 204, 205, 41, 206, 207, 208, 209, 210, 211, 212, 213, 36, 214, 215, 216, 217, 35, 218, 219, 220, 221, 34, 222, 79, 80, 223, 224, 225, 226, 227, 228, 229, 230, 231, 81, 78, 435, 436, 437, 438, 439, 440, 441, 442, 443, 444, 445, 446, 447, 448, 232, 233, 234, 235, 236, 134, 135, 136, 137, 39, 611, 612, 613, 614, 615, 616, 617, 618, 619, 567, 568, 569, 570, 571, 572, 573, 574, 575, 576, 577, 578, 579, 580, 581, 599, 600, 601, 602, 603, 604, 605, 582, 583, 584, 585, 597, 598, 589, 590, 591, 592, 593, 594, 595, 596] (by decide +kernel) (by decide +kernel)) (goodIn_sub (fun _ h => List.mem_append_right _ h) (by decide +kernel))
set_option maxRecDepth 20000 in
theorem gL_law_L_isClosed : GoodIn wsL_law (va_wsS RL 207 yL_isClosed wsL_isClosed) := goodIn_app (goodIn_of _ (by decide +kernel)) ggL_law_L_isClosed
set_option maxRecDepth 20000 in
theorem ggL_law_L_areGiven : GoodIn wsL_law wsL_areGiven := goodIn_ca (goodIn_ca (goodIn_h (c := .code yL_areGiven cL_areGiven 11 (some .boolean)) (List.mem_append_left _ (List.mem_append_left _ (List.mem_append_left _ (List.mem_append_left _ (List.mem_append_left _ (List.mem_append_left _ (List.mem_append_left _ (List.mem_append_left _ (List.mem_append_left _ (List.mem_append_left _ (List.mem_append_left _ (List.mem_append_left _ (List.mem_append_left _ (List.mem_append_left _ (List.mem_append_right _ (List.mem_append_right _ (List.mem_append_right _ (List.mem_append_right _ (List.mem_append_right _ (List.mem_append_right _ (List.mem_append_right _ (List.mem_append_right _ (List.mem_append_right _ (List.mem_append_right _ (List.mem_append_right _ (List.mem_append_right _ (List.mem_append_right _ (List.mem_append_right _ (List.mem_append_right _ (List.mem_append_right _ (List.mem_append_right _ (List.mem_append_right _ (List.mem_append_right _ (List.mem_append_right _ (List.mem_append_right _ (List.mem_append_right _ (List.mem_append_left _ ((List.mem_of_getElem? (i := 19) rfl))))))))))))))))))))))))))))))))))))))) (by decide +kernel) (goodIn_app (goodIn_app (goodIn_app (goodIn_app (goodIn_app (goodIn_app (goodIn_app (goodIn_app (goodIn_app (goodIn_r wsL_areGiven_r1 [282, 281, 506, 507, 274, 508, 322, 509, 510, 511, 2, 512, 209, 367, 368, 369, 370, 327, 328, 329, 330, 331, 332, 27] (by decide +kernel) (by decide +kernel)) (goodIn_app (goodIn_r wsL_areGiven_r2 [303, 304, 305, 142, 143, 144, 145, 42, 31, 146, 147, 148, 149, 13, 150, 151, 152, 153, 154, 155, 156, 12, 157, 50] (by decide +kernel) (by decide +kernel)) (goodIn_app (goodIn_r wsL_areGiven_r3 [158, 159, 160, 161, 162, 21, 163, 164, 165, 166, 44, 167, 85, 168, 169, 170, 46, 171, 91, 172, 173, 174, 175, 176] (by decide +kernel) (by decide +kernel)) (goodIn_app (goodIn_r wsL_areGiven_r4 [177, 178, 179, 180, 181, 182, 183, 184, 86, 185, 186, 187, 188, 128, 125, 129, 189, 124, 126, 190, 191, 192, 193, 194] (by decide +kernel) (by decide +kernel)) (goodIn_app (goodIn_r wsL_areGiven_r5 [195, 30, 196, 70, 71, 197, 198, 73, 72, 199, 107, 108, 109, 200, 201, 202, 203, 40, 204, 205, 41, 206, 207, 208] (by decide +kernel) (by decide +kernel)) (goodIn_app (goodIn_r wsL_areGiven_r6 [210, 211, 212, 213, 36, 214, 215, 216, 217, 35, 218, 219, 220, 221, 34, 222, 79, 80, 223, 224, 225, 226, 227, 228] (by decide +kernel) (by decide +kernel)) (goodIn_app (goodIn_r wsL_areGiven_r7 [229, 230, 231, 81, 78, 360, 361, 362, 363, 364, 365, 366, 548, 549, 550, 291, 551, 552, 553, 554, 297, 298, 555, 556] (by decide +kernel) (by decide +kernel)) (goodIn_app (goodIn_r wsL_areGiven_r8 [557, 558, 559, 560, 561, 562, 442, 443, 444, 445, 446, 447, 448, 138, 139, 140, 141, 237, 238, 239, 240, 241, 242, 243] (by decide +kernel) (by decide +kernel)) (goodIn_r wsL_areGiven_r9 [244] (by decide +kernel) (by decide +kernel)))))))))) (goodIn_r wsX20 [611, 612, 613, 614, 615, 616, 617, 618, 619] (by decide +kernel) (by decide +kernel))) (goodIn_r wsX90 [567, 568, 569, 570, 571, 572, 573, 574, 575, 576, 577, 578, 579, 580, 581] (by decide +kernel) (by decide +kernel))) (goodIn_r wsX60 [599, 600, 601, 602, 603, 604, 605] (by decide +kernel) (by decide +kernel))) (goodIn_r wsX40 [582, 583] (by decide +kernel) (by decide +kernel))) (goodIn_r wsX80 [584, 585] (by decide +kernel) (by decide +kernel))) (goodIn_r wsX70 [597, 598] (by decide +kernel) (by decide +kernel))) (goodIn_r wsX00 [589, 590, 591, 592] (by decide +kernel) (by decide +kernel))) (goodIn_r wsX10 [593, 594, 595, 596] (by decide +kernel) (by decide +kernel)))) (goodIn_sub (fun _ h => List.mem_append_right _ h) (by decide +kernel))) (goodIn_sub (fun _ h => List.mem_append_left _ (List.mem_append_left _ (List.mem_append_right _ h))) (by decide +kernel))
set_option maxRecDepth 20000 in
theorem gL_law_L_areGiven : GoodIn wsL_law (va_wsS RL 211 yL_areGiven wsL_areGiven) := goodIn_app (goodIn_of _ (by decide +kernel)) ggL_law_L_areGiven
set_option maxRecDepth 20000 in
theorem ggL_law_L_arePriced : GoodIn wsL_law wsL_arePriced := goodIn_ca (goodIn_r _ [565, 566, 499, 500, 274, 501, 322, 434, 502, 503, 504, 2, 505, 152, 367, 368, 369, 370, 327, 328, 329, 330, 331, 332, 27, 303, 304, 305, 142, 143, 144, 145, 42, 31, 146, 147, 148, 149, 13, 150, 151, 153, 154, 155, 156, 12, 157, 50, 158, 159, 160, 161, 162, 21, 163, 164, 165, 166, 44, 167, 85, 168, 169, 170, 46, 171, 91, 172, 173, 174, 175, 176, 177, 178, 179, 180, 181, 182, 183, 184, 86, 185, 186, 187, 188, 128, 125, 129, 189, 124, 126, 190, 191, 192, 193, 194, 195, 30, 196, 70, 71, 197, 198, 73, 72, 199, 107, 108, 109, 200, 201, 202, 203, 40, 204, 205, 41, 206, 207, 208, 209, 210, 211, 212, 213, 36, 214, 215, 216, 217, 35, 218, 219, 220, 221, 34, 222, 79, 80, 223, 224, 225, 226, 227, 228, 229, 230, 231, 81, 78, 442, 443, 444, 282, 445, 446, 447, 448, 360, 361, 362, 363, 364, 365, 366, 513, 514, 515, 516, 517, 518, 519, 249, 250, 251, 252, 37, 253, 254, 255, 256, 51, 257, 258, 259, 260, 245, 246, 247, 248, 611, 612, 613, 614, 615, 616, 617, 618, 619, 567, 568, 569, 570, 571, 572, 573, 574, 575, 576, 577, 578, 579, 580, 581, 599, 600, 601, 602, 603, 604, 605, 582, 583, 584, 585, 597, 598, 589, 590, 591, 592, 593, 594, 595, 596] (by decide +kernel) (by decide +kernel)) (goodIn_sub (fun _ h => List.mem_append_right _ h) (by decide +kernel))
set_option maxRecDepth 20000 in
theorem gL_law_L_arePriced : GoodIn wsL_law (va_wsS RL 215 yL_arePriced wsL_arePriced) := goodIn_app (goodIn_of _ (by decide +kernel)) ggL_law_L_arePriced
theorem dL_law_0 : decode cL_law 0 = .ok (.new 11, 3) := by decide +kernel
theorem dL_law_3 : decode cL_law 3 = .ok (.dup, 1) := by decide +kernel
theorem dL_law_4 : decode cL_law 4 = .ok (.invokespecial 191, 3) := by decide +kernel
theorem dL_law_7 : decode cL_law 7 = .ok (.astore_n 1, 1) := by decide +kernel
theorem dL_law_8 : decode cL_law 8 = .ok (.bipush 40, 2) := by decide +kernel
theorem dL_law_10 : decode cL_law 10 = .ok (.newarray .int, 2) := by decide +kernel
theorem dL_law_12 : decode cL_law 12 = .ok (.astore_n 2, 1) := by decide +kernel
theorem dL_law_13 : decode cL_law 13 = .ok (.iconst 4, 1) := by decide +kernel
theorem dL_law_14 : decode cL_law 14 = .ok (.newarray .int, 2) := by decide +kernel
theorem dL_law_16 : decode cL_law 16 = .ok (.astore_n 3, 1) := by decide +kernel
theorem dL_law_17 : decode cL_law 17 = .ok (.bipush 64, 2) := by decide +kernel
theorem dL_law_19 : decode cL_law 19 = .ok (.newarray .int, 2) := by decide +kernel
theorem dL_law_21 : decode cL_law 21 = .ok (.astore 4, 2) := by decide +kernel
theorem dL_law_23 : decode cL_law 23 = .ok (.bipush 64, 2) := by decide +kernel
theorem dL_law_25 : decode cL_law 25 = .ok (.newarray .int, 2) := by decide +kernel
theorem dL_law_27 : decode cL_law 27 = .ok (.astore 5, 2) := by decide +kernel
theorem dL_law_29 : decode cL_law 29 = .ok (.bipush 10, 2) := by decide +kernel
theorem dL_law_31 : decode cL_law 31 = .ok (.newarray .int, 2) := by decide +kernel
theorem dL_law_33 : decode cL_law 33 = .ok (.astore 6, 2) := by decide +kernel
theorem dL_law_35 : decode cL_law 35 = .ok (.bipush 32, 2) := by decide +kernel
theorem dL_law_37 : decode cL_law 37 = .ok (.newarray .int, 2) := by decide +kernel
theorem dL_law_39 : decode cL_law 39 = .ok (.astore 7, 2) := by decide +kernel
theorem dL_law_41 : decode cL_law 41 = .ok (.iconst 4, 1) := by decide +kernel
theorem dL_law_42 : decode cL_law 42 = .ok (.newarray .int, 2) := by decide +kernel
theorem dL_law_44 : decode cL_law 44 = .ok (.astore 8, 2) := by decide +kernel
theorem dL_law_46 : decode cL_law 46 = .ok (.aload 8, 2) := by decide +kernel
theorem dL_law_48 : decode cL_law 48 = .ok (.iconst 2, 1) := by decide +kernel
theorem dL_law_49 : decode cL_law 49 = .ok (.bipush 20, 2) := by decide +kernel
theorem dL_law_51 : decode cL_law 51 = .ok (.iastore, 1) := by decide +kernel
theorem dL_law_52 : decode cL_law 52 = .ok (.aload 8, 2) := by decide +kernel
theorem dL_law_54 : decode cL_law 54 = .ok (.iconst 3, 1) := by decide +kernel
theorem dL_law_55 : decode cL_law 55 = .ok (.iconst 2, 1) := by decide +kernel
theorem dL_law_56 : decode cL_law 56 = .ok (.iastore, 1) := by decide +kernel
theorem dL_law_57 : decode cL_law 57 = .ok (.iconst 0, 1) := by decide +kernel
theorem dL_law_58 : decode cL_law 58 = .ok (.istore 9, 2) := by decide +kernel
theorem dL_law_60 : decode cL_law 60 = .ok (.iload 9, 2) := by decide +kernel
theorem dL_law_62 : decode cL_law 62 = .ok (.bipush 10, 2) := by decide +kernel
theorem dL_law_64 : decode cL_law 64 = .ok (.if_icmp .ge 22, 3) := by decide +kernel
theorem dL_law_67 : decode cL_law 67 = .ok (.aload 6, 2) := by decide +kernel
theorem dL_law_69 : decode cL_law 69 = .ok (.iload 9, 2) := by decide +kernel
theorem dL_law_71 : decode cL_law 71 = .ok (.iconst 1, 1) := by decide +kernel
theorem dL_law_72 : decode cL_law 72 = .ok (.iastore, 1) := by decide +kernel
theorem dL_law_73 : decode cL_law 73 = .ok (.aload_n 3, 1) := by decide +kernel
theorem dL_law_74 : decode cL_law 74 = .ok (.iload 9, 2) := by decide +kernel
theorem dL_law_76 : decode cL_law 76 = .ok (.iconst 4, 1) := by decide +kernel
theorem dL_law_77 : decode cL_law 77 = .ok (.irem, 1) := by decide +kernel
theorem dL_law_78 : decode cL_law 78 = .ok (.iconst 5, 1) := by decide +kernel
theorem dL_law_79 : decode cL_law 79 = .ok (.iastore, 1) := by decide +kernel
theorem dL_law_80 : decode cL_law 80 = .ok (.iinc 9 1, 3) := by decide +kernel
theorem dL_law_83 : decode cL_law 83 = .ok (.goto (-23), 3) := by decide +kernel
theorem dL_law_86 : decode cL_law 86 = .ok (.aload_n 1, 1) := by decide +kernel
theorem dL_law_87 : decode cL_law 87 = .ok (.invokevirtual 131, 3) := by decide +kernel
theorem dL_law_90 : decode cL_law 90 = .ok (.ifCond .ne 42, 3) := by decide +kernel
theorem dL_law_93 : decode cL_law 93 = .ok (.aload_n 1, 1) := by decide +kernel
theorem dL_law_94 : decode cL_law 94 = .ok (.invokevirtual 138, 3) := by decide +kernel
theorem dL_law_97 : decode cL_law 97 = .ok (.ifCond .ne 35, 3) := by decide +kernel
theorem dL_law_100 : decode cL_law 100 = .ok (.aload_n 1, 1) := by decide +kernel
theorem dL_law_101 : decode cL_law 101 = .ok (.invokevirtual 127, 3) := by decide +kernel
theorem dL_law_104 : decode cL_law 104 = .ok (.ifCond .ne 28, 3) := by decide +kernel
theorem dL_law_107 : decode cL_law 107 = .ok (.aload_n 1, 1) := by decide +kernel
theorem dL_law_108 : decode cL_law 108 = .ok (.invokevirtual 141, 3) := by decide +kernel
theorem dL_law_111 : decode cL_law 111 = .ok (.ifCond .ne 21, 3) := by decide +kernel
theorem dL_law_114 : decode cL_law 114 = .ok (.aload_n 1, 1) := by decide +kernel
theorem dL_law_115 : decode cL_law 115 = .ok (.invokevirtual 146, 3) := by decide +kernel
theorem dL_law_118 : decode cL_law 118 = .ok (.ifCond .ne 14, 3) := by decide +kernel
theorem dL_law_121 : decode cL_law 121 = .ok (.aload_n 1, 1) := by decide +kernel
theorem dL_law_122 : decode cL_law 122 = .ok (.invokevirtual 166, 3) := by decide +kernel
theorem dL_law_125 : decode cL_law 125 = .ok (.ifCond .ne 7, 3) := by decide +kernel
theorem dL_law_128 : decode cL_law 128 = .ok (.iconst 1, 1) := by decide +kernel
theorem dL_law_129 : decode cL_law 129 = .ok (.goto 4, 3) := by decide +kernel
theorem dL_law_132 : decode cL_law 132 = .ok (.iconst 0, 1) := by decide +kernel
theorem dL_law_133 : decode cL_law 133 = .ok (.istore 9, 2) := by decide +kernel
theorem dL_law_135 : decode cL_law 135 = .ok (.iconst 0, 1) := by decide +kernel
theorem dL_law_136 : decode cL_law 136 = .ok (.istore 10, 2) := by decide +kernel
theorem dL_law_138 : decode cL_law 138 = .ok (.iload 10, 2) := by decide +kernel
theorem dL_law_140 : decode cL_law 140 = .ok (.sipush 130, 3) := by decide +kernel
theorem dL_law_143 : decode cL_law 143 = .ok (.if_icmp .ge 159, 3) := by decide +kernel
theorem dL_law_146 : decode cL_law 146 = .ok (.iload 9, 2) := by decide +kernel
theorem dL_law_148 : decode cL_law 148 = .ok (.ifCond .eq 154, 3) := by decide +kernel
theorem dL_law_151 : decode cL_law 151 = .ok (.aload_n 0, 1) := by decide +kernel
theorem dL_law_152 : decode cL_law 152 = .ok (.iconst 2, 1) := by decide +kernel
theorem dL_law_153 : decode cL_law 153 = .ok (.iload 10, 2) := by decide +kernel
theorem dL_law_155 : decode cL_law 155 = .ok (.imul, 1) := by decide +kernel
theorem dL_law_156 : decode cL_law 156 = .ok (.invokestatic 192, 3) := by decide +kernel
theorem dL_law_159 : decode cL_law 159 = .ok (.istore 11, 2) := by decide +kernel
theorem dL_law_161 : decode cL_law 161 = .ok (.aload_n 1, 1) := by decide +kernel
theorem dL_law_162 : decode cL_law 162 = .ok (.aload_n 2, 1) := by decide +kernel
theorem dL_law_163 : decode cL_law 163 = .ok (.aload_n 3, 1) := by decide +kernel
theorem dL_law_164 : decode cL_law 164 = .ok (.aload 4, 2) := by decide +kernel
theorem dL_law_166 : decode cL_law 166 = .ok (.aload 5, 2) := by decide +kernel
theorem dL_law_168 : decode cL_law 168 = .ok (.aload 6, 2) := by decide +kernel
theorem dL_law_170 : decode cL_law 170 = .ok (.aload 7, 2) := by decide +kernel
theorem dL_law_172 : decode cL_law 172 = .ok (.aload 8, 2) := by decide +kernel
theorem dL_law_174 : decode cL_law 174 = .ok (.iload 11, 2) := by decide +kernel
theorem dL_law_176 : decode cL_law 176 = .ok (.aload_n 0, 1) := by decide +kernel
theorem dL_law_177 : decode cL_law 177 = .ok (.iconst 2, 1) := by decide +kernel
theorem dL_law_178 : decode cL_law 178 = .ok (.iload 10, 2) := by decide +kernel
theorem dL_law_180 : decode cL_law 180 = .ok (.imul, 1) := by decide +kernel
theorem dL_law_181 : decode cL_law 181 = .ok (.iconst 1, 1) := by decide +kernel
theorem dL_law_182 : decode cL_law 182 = .ok (.iadd, 1) := by decide +kernel
theorem dL_law_183 : decode cL_law 183 = .ok (.invokestatic 192, 3) := by decide +kernel
theorem dL_law_186 : decode cL_law 186 = .ok (.invokestatic 196, 3) := by decide +kernel
theorem dL_law_189 : decode cL_law 189 = .ok (.ifCond .eq 46, 3) := by decide +kernel
theorem dL_law_192 : decode cL_law 192 = .ok (.aload_n 1, 1) := by decide +kernel
theorem dL_law_193 : decode cL_law 193 = .ok (.aload_n 2, 1) := by decide +kernel
theorem dL_law_194 : decode cL_law 194 = .ok (.aload_n 3, 1) := by decide +kernel
theorem dL_law_195 : decode cL_law 195 = .ok (.aload 4, 2) := by decide +kernel
theorem dL_law_197 : decode cL_law 197 = .ok (.aload 8, 2) := by decide +kernel
theorem dL_law_199 : decode cL_law 199 = .ok (.iload 11, 2) := by decide +kernel
theorem dL_law_201 : decode cL_law 201 = .ok (.bipush 6, 2) := by decide +kernel
theorem dL_law_203 : decode cL_law 203 = .ok (.ishr, 1) := by decide +kernel
theorem dL_law_204 : decode cL_law 204 = .ok (.aload 8, 2) := by decide +kernel
theorem dL_law_206 : decode cL_law 206 = .ok (.iconst 0, 1) := by decide +kernel
theorem dL_law_207 : decode cL_law 207 = .ok (.iaload, 1) := by decide +kernel
theorem dL_law_208 : decode cL_law 208 = .ok (.iconst 1, 1) := by decide +kernel
theorem dL_law_209 : decode cL_law 209 = .ok (.iadd, 1) := by decide +kernel
theorem dL_law_210 : decode cL_law 210 = .ok (.invokestatic 149, 3) := by decide +kernel
theorem dL_law_213 : decode cL_law 213 = .ok (.invokestatic 199, 3) := by decide +kernel
theorem dL_law_216 : decode cL_law 216 = .ok (.ifCond .eq 19, 3) := by decide +kernel
theorem dL_law_219 : decode cL_law 219 = .ok (.aload_n 1, 1) := by decide +kernel
theorem dL_law_220 : decode cL_law 220 = .ok (.aload_n 3, 1) := by decide +kernel
theorem dL_law_221 : decode cL_law 221 = .ok (.iload 11, 2) := by decide +kernel
theorem dL_law_223 : decode cL_law 223 = .ok (.iconst 3, 1) := by decide +kernel
theorem dL_law_224 : decode cL_law 224 = .ok (.ishr, 1) := by decide +kernel
theorem dL_law_225 : decode cL_law 225 = .ok (.invokestatic 203, 3) := by decide +kernel
theorem dL_law_228 : decode cL_law 228 = .ok (.ifCond .eq 7, 3) := by decide +kernel
theorem dL_law_231 : decode cL_law 231 = .ok (.iconst 1, 1) := by decide +kernel
theorem dL_law_232 : decode cL_law 232 = .ok (.goto 4, 3) := by decide +kernel
theorem dL_law_235 : decode cL_law 235 = .ok (.iconst 0, 1) := by decide +kernel
theorem dL_law_236 : decode cL_law 236 = .ok (.istore 9, 2) := by decide +kernel
theorem dL_law_238 : decode cL_law 238 = .ok (.iload 9, 2) := by decide +kernel
theorem dL_law_240 : decode cL_law 240 = .ok (.ifCond .eq 56, 3) := by decide +kernel
theorem dL_law_243 : decode cL_law 243 = .ok (.iload 10, 2) := by decide +kernel
theorem dL_law_245 : decode cL_law 245 = .ok (.bipush 26, 2) := by decide +kernel
theorem dL_law_247 : decode cL_law 247 = .ok (.irem, 1) := by decide +kernel
theorem dL_law_248 : decode cL_law 248 = .ok (.bipush 25, 2) := by decide +kernel
theorem dL_law_250 : decode cL_law 250 = .ok (.if_icmp .ne 46, 3) := by decide +kernel
theorem dL_law_253 : decode cL_law 253 = .ok (.aload_n 1, 1) := by decide +kernel
theorem dL_law_254 : decode cL_law 254 = .ok (.aload_n 2, 1) := by decide +kernel
theorem dL_law_255 : decode cL_law 255 = .ok (.aload 8, 2) := by decide +kernel
theorem dL_law_257 : decode cL_law 257 = .ok (.invokestatic 207, 3) := by decide +kernel
theorem dL_law_260 : decode cL_law 260 = .ok (.ifCond .eq 33, 3) := by decide +kernel
theorem dL_law_263 : decode cL_law 263 = .ok (.aload_n 1, 1) := by decide +kernel
theorem dL_law_264 : decode cL_law 264 = .ok (.aload_n 2, 1) := by decide +kernel
theorem dL_law_265 : decode cL_law 265 = .ok (.aload 7, 2) := by decide +kernel
theorem dL_law_267 : decode cL_law 267 = .ok (.aload 8, 2) := by decide +kernel
theorem dL_law_269 : decode cL_law 269 = .ok (.invokestatic 211, 3) := by decide +kernel
theorem dL_law_272 : decode cL_law 272 = .ok (.ifCond .eq 21, 3) := by decide +kernel
theorem dL_law_275 : decode cL_law 275 = .ok (.aload_n 1, 1) := by decide +kernel
theorem dL_law_276 : decode cL_law 276 = .ok (.aload_n 2, 1) := by decide +kernel
theorem dL_law_277 : decode cL_law 277 = .ok (.aload 5, 2) := by decide +kernel
theorem dL_law_279 : decode cL_law 279 = .ok (.aload 6, 2) := by decide +kernel
theorem dL_law_281 : decode cL_law 281 = .ok (.aload 8, 2) := by decide +kernel
theorem dL_law_283 : decode cL_law 283 = .ok (.invokestatic 215, 3) := by decide +kernel
theorem dL_law_286 : decode cL_law 286 = .ok (.ifCond .eq 7, 3) := by decide +kernel
theorem dL_law_289 : decode cL_law 289 = .ok (.iconst 1, 1) := by decide +kernel
theorem dL_law_290 : decode cL_law 290 = .ok (.goto 4, 3) := by decide +kernel
theorem dL_law_293 : decode cL_law 293 = .ok (.iconst 0, 1) := by decide +kernel
theorem dL_law_294 : decode cL_law 294 = .ok (.istore 9, 2) := by decide +kernel
theorem dL_law_296 : decode cL_law 296 = .ok (.iinc 10 1, 3) := by decide +kernel
theorem dL_law_299 : decode cL_law 299 = .ok (.goto (-161), 3) := by decide +kernel
theorem dL_law_302 : decode cL_law 302 = .ok (.iload 9, 2) := by decide +kernel
theorem dL_law_304 : decode cL_law 304 = .ok (.ireturn, 1) := by decide +kernel
