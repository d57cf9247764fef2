theorem dX10_flies_3 : decode cX10_flies 3 = .ok (.iconst 4, 1) := by decide +kernel
theorem dX10_flies_4 : decode cX10_flies 4 = .ok (.if_icmp .ge 31, 3) := by decide +kernel
theorem dX10_flies_7 : decode cX10_flies 7 = .ok (.aload_n 0, 1) := by decide +kernel
theorem dX10_flies_8 : decode cX10_flies 8 = .ok (.getfield 31, 3) := by decide +kernel
theorem dX10_flies_11 : decode cX10_flies 11 = .ok (.iconst 4, 1) := by decide +kernel
theorem dX10_flies_12 : decode cX10_flies 12 = .ok (.iload_n 1, 1) := by decide +kernel
theorem dX10_flies_13 : decode cX10_flies 13 = .ok (.imul, 1) := by decide +kernel
theorem dX10_flies_14 : decode cX10_flies 14 = .ok (.iload_n 2, 1) := by decide +kernel
theorem dX10_flies_15 : decode cX10_flies 15 = .ok (.iadd, 1) := by decide +kernel
theorem dX10_flies_16 : decode cX10_flies 16 = .ok (.iconst 0, 1) := by decide +kernel
theorem dX10_flies_17 : decode cX10_flies 17 = .ok (.iastore, 1) := by decide +kernel
theorem dX10_flies_18 : decode cX10_flies 18 = .ok (.aload_n 0, 1) := by decide +kernel
theorem dX10_flies_19 : decode cX10_flies 19 = .ok (.getfield 34, 3) := by decide +kernel
theorem dX10_flies_22 : decode cX10_flies 22 = .ok (.iconst 4, 1) := by decide +kernel
theorem dX10_flies_23 : decode cX10_flies 23 = .ok (.iload_n 1, 1) := by decide +kernel
theorem dX10_flies_24 : decode cX10_flies 24 = .ok (.imul, 1) := by decide +kernel
theorem dX10_flies_25 : decode cX10_flies 25 = .ok (.iload_n 2, 1) := by decide +kernel
theorem dX10_flies_26 : decode cX10_flies 26 = .ok (.iadd, 1) := by decide +kernel
theorem dX10_flies_27 : decode cX10_flies 27 = .ok (.iconst 0, 1) := by decide +kernel
theorem dX10_flies_28 : decode cX10_flies 28 = .ok (.iastore, 1) := by decide +kernel
theorem dX10_flies_29 : decode cX10_flies 29 = .ok (.iinc 2 1, 3) := by decide +kernel
theorem dX10_flies_32 : decode cX10_flies 32 = .ok (.goto (-30), 3) := by decide +kernel
theorem dX10_flies_35 : decode cX10_flies 35 = .ok (.iconst 0, 1) := by decide +kernel
theorem dX10_flies_36 : decode cX10_flies 36 = .ok (.istore_n 2, 1) := by decide +kernel
theorem dX10_flies_37 : decode cX10_flies 37 = .ok (.aload_n 0, 1) := by decide +kernel
theorem dX10_flies_38 : decode cX10_flies 38 = .ok (.getfield 13, 3) := by decide +kernel
theorem dX10_flies_41 : decode cX10_flies 41 = .ok (.iload_n 1, 1) := by decide +kernel
theorem dX10_flies_42 : decode cX10_flies 42 = .ok (.iaload, 1) := by decide +kernel
theorem dX10_flies_43 : decode cX10_flies 43 = .ok (.istore_n 3, 1) := by decide +kernel
theorem dX10_flies_44 : decode cX10_flies 44 = .ok (.aload_n 0, 1) := by decide +kernel
theorem dX10_flies_45 : decode cX10_flies 45 = .ok (.getfield 22, 3) := by decide +kernel
theorem dX10_flies_48 : decode cX10_flies 48 = .ok (.iload_n 1, 1) := by decide +kernel
theorem dX10_flies_49 : decode cX10_flies 49 = .ok (.iconst 0, 1) := by decide +kernel
theorem dX10_flies_50 : decode cX10_flies 50 = .ok (.iastore, 1) := by decide +kernel
theorem dX10_flies_51 : decode cX10_flies 51 = .ok (.aload_n 0, 1) := by decide +kernel
theorem dX10_flies_52 : decode cX10_flies 52 = .ok (.getfield 25, 3) := by decide +kernel
theorem dX10_flies_55 : decode cX10_flies 55 = .ok (.iload_n 1, 1) := by decide +kernel
theorem dX10_flies_56 : decode cX10_flies 56 = .ok (.iconst 0, 1) := by decide +kernel
theorem dX10_flies_57 : decode cX10_flies 57 = .ok (.iastore, 1) := by decide +kernel
theorem dX10_flies_58 : decode cX10_flies 58 = .ok (.iload_n 3, 1) := by decide +kernel
theorem dX10_flies_59 : decode cX10_flies 59 = .ok (.ifCond .gt 7, 3) := by decide +kernel
theorem dX10_flies_62 : decode cX10_flies 62 = .ok (.iload_n 2, 1) := by decide +kernel
theorem dX10_flies_63 : decode cX10_flies 63 = .ok (.ifCond .le 106, 3) := by decide +kernel
theorem dX10_flies_66 : decode cX10_flies 66 = .ok (.iload_n 2, 1) := by decide +kernel
theorem dX10_flies_67 : decode cX10_flies 67 = .ok (.sipush 250, 3) := by decide +kernel
theorem dX10_flies_70 : decode cX10_flies 70 = .ok (.idiv, 1) := by decide +kernel
theorem dX10_flies_71 : decode cX10_flies 71 = .ok (.iconst 4, 1) := by decide +kernel
theorem dX10_flies_72 : decode cX10_flies 72 = .ok (.if_icmp .ge 11, 3) := by decide +kernel
theorem dX10_flies_75 : decode cX10_flies 75 = .ok (.iload_n 2, 1) := by decide +kernel
theorem dX10_flies_76 : decode cX10_flies 76 = .ok (.sipush 250, 3) := by decide +kernel
theorem dX10_flies_79 : decode cX10_flies 79 = .ok (.idiv, 1) := by decide +kernel
theorem dX10_flies_80 : decode cX10_flies 80 = .ok (.goto 4, 3) := by decide +kernel
theorem dX10_flies_83 : decode cX10_flies 83 = .ok (.iconst 3, 1) := by decide +kernel
theorem dX10_flies_84 : decode cX10_flies 84 = .ok (.istore 4, 2) := by decide +kernel
theorem dX10_flies_86 : decode cX10_flies 86 = .ok (.aload_n 0, 1) := by decide +kernel
theorem dX10_flies_87 : decode cX10_flies 87 = .ok (.getfield 31, 3) := by decide +kernel
theorem dX10_flies_90 : decode cX10_flies 90 = .ok (.iconst 4, 1) := by decide +kernel
theorem dX10_flies_91 : decode cX10_flies 91 = .ok (.iload_n 1, 1) := by decide +kernel
theorem dX10_flies_92 : decode cX10_flies 92 = .ok (.imul, 1) := by decide +kernel
theorem dX10_flies_93 : decode cX10_flies 93 = .ok (.iload 4, 2) := by decide +kernel
theorem dX10_flies_95 : decode cX10_flies 95 = .ok (.iadd, 1) := by decide +kernel
theorem dX10_flies_96 : decode cX10_flies 96 = .ok (.dup2, 1) := by decide +kernel
theorem dX10_flies_97 : decode cX10_flies 97 = .ok (.iaload, 1) := by decide +kernel
theorem dX10_flies_98 : decode cX10_flies 98 = .ok (.iconst 1, 1) := by decide +kernel
theorem dX10_flies_99 : decode cX10_flies 99 = .ok (.iadd, 1) := by decide +kernel
theorem dX10_flies_100 : decode cX10_flies 100 = .ok (.iastore, 1) := by decide +kernel
theorem dX10_flies_101 : decode cX10_flies 101 = .ok (.aload_n 0, 1) := by decide +kernel
theorem dX10_flies_102 : decode cX10_flies 102 = .ok (.getfield 25, 3) := by decide +kernel
theorem dX10_flies_105 : decode cX10_flies 105 = .ok (.iload_n 1, 1) := by decide +kernel
theorem dX10_flies_106 : decode cX10_flies 106 = .ok (.dup2, 1) := by decide +kernel
theorem dX10_flies_107 : decode cX10_flies 107 = .ok (.iaload, 1) := by decide +kernel
theorem dX10_flies_108 : decode cX10_flies 108 = .ok (.iconst 1, 1) := by decide +kernel
theorem dX10_flies_109 : decode cX10_flies 109 = .ok (.iadd, 1) := by decide +kernel
theorem dX10_flies_110 : decode cX10_flies 110 = .ok (.iastore, 1) := by decide +kernel
theorem dX10_flies_111 : decode cX10_flies 111 = .ok (.iload_n 3, 1) := by decide +kernel
theorem dX10_flies_112 : decode cX10_flies 112 = .ok (.ifCond .le 45, 3) := by decide +kernel
theorem dX10_flies_115 : decode cX10_flies 115 = .ok (.aload_n 0, 1) := by decide +kernel
theorem dX10_flies_116 : decode cX10_flies 116 = .ok (.getfield 34, 3) := by decide +kernel
theorem dX10_flies_119 : decode cX10_flies 119 = .ok (.iconst 4, 1) := by decide +kernel
theorem dX10_flies_120 : decode cX10_flies 120 = .ok (.iload_n 1, 1) := by decide +kernel
theorem dX10_flies_121 : decode cX10_flies 121 = .ok (.imul, 1) := by decide +kernel
theorem dX10_flies_122 : decode cX10_flies 122 = .ok (.iload 4, 2) := by decide +kernel
theorem dX10_flies_124 : decode cX10_flies 124 = .ok (.iadd, 1) := by decide +kernel
theorem dX10_flies_125 : decode cX10_flies 125 = .ok (.dup2, 1) := by decide +kernel
theorem dX10_flies_126 : decode cX10_flies 126 = .ok (.iaload, 1) := by decide +kernel
theorem dX10_flies_127 : decode cX10_flies 127 = .ok (.iconst 1, 1) := by decide +kernel
theorem dX10_flies_128 : decode cX10_flies 128 = .ok (.iadd, 1) := by decide +kernel
theorem dX10_flies_129 : decode cX10_flies 129 = .ok (.iastore, 1) := by decide +kernel
theorem dX10_flies_130 : decode cX10_flies 130 = .ok (.aload_n 0, 1) := by decide +kernel
theorem dX10_flies_131 : decode cX10_flies 131 = .ok (.getfield 22, 3) := by decide +kernel
theorem dX10_flies_134 : decode cX10_flies 134 = .ok (.iload_n 1, 1) := by decide +kernel
theorem dX10_flies_135 : decode cX10_flies 135 = .ok (.dup2, 1) := by decide +kernel
theorem dX10_flies_136 : decode cX10_flies 136 = .ok (.iaload, 1) := by decide +kernel
theorem dX10_flies_137 : decode cX10_flies 137 = .ok (.iconst 1, 1) := by decide +kernel
theorem dX10_flies_138 : decode cX10_flies 138 = .ok (.iadd, 1) := by decide +kernel
theorem dX10_flies_139 : decode cX10_flies 139 = .ok (.iastore, 1) := by decide +kernel
theorem dX10_flies_140 : decode cX10_flies 140 = .ok (.iload_n 2, 1) := by decide +kernel
theorem dX10_flies_141 : decode cX10_flies 141 = .ok (.iload_n 3, 1) := by decide +kernel
theorem dX10_flies_142 : decode cX10_flies 142 = .ok (.iadd, 1) := by decide +kernel
theorem dX10_flies_143 : decode cX10_flies 143 = .ok (.istore_n 2, 1) := by decide +kernel
theorem dX10_flies_144 : decode cX10_flies 144 = .ok (.iinc 3 (-10), 3) := by decide +kernel
theorem dX10_flies_147 : decode cX10_flies 147 = .ok (.aload_n 0, 1) := by decide +kernel
theorem dX10_flies_148 : decode cX10_flies 148 = .ok (.getfield 28, 3) := by decide +kernel
theorem dX10_flies_151 : decode cX10_flies 151 = .ok (.iload_n 1, 1) := by decide +kernel
theorem dX10_flies_152 : decode cX10_flies 152 = .ok (.iload_n 2, 1) := by decide +kernel
theorem dX10_flies_153 : decode cX10_flies 153 = .ok (.iastore, 1) := by decide +kernel
theorem dX10_flies_154 : decode cX10_flies 154 = .ok (.goto 12, 3) := by decide +kernel
theorem dX10_flies_157 : decode cX10_flies 157 = .ok (.iload_n 2, 1) := by decide +kernel
theorem dX10_flies_158 : decode cX10_flies 158 = .ok (.aload_n 0, 1) := by decide +kernel
theorem dX10_flies_159 : decode cX10_flies 159 = .ok (.getfield 16, 3) := by decide +kernel
theorem dX10_flies_162 : decode cX10_flies 162 = .ok (.iload_n 1, 1) := by decide +kernel
theorem dX10_flies_163 : decode cX10_flies 163 = .ok (.iaload, 1) := by decide +kernel
theorem dX10_flies_164 : decode cX10_flies 164 = .ok (.isub, 1) := by decide +kernel
theorem dX10_flies_165 : decode cX10_flies 165 = .ok (.istore_n 2, 1) := by decide +kernel
theorem dX10_flies_166 : decode cX10_flies 166 = .ok (.goto (-108), 3) := by decide +kernel
theorem dX10_flies_169 : decode cX10_flies 169 = .ok (.return_, 1) := by decide +kernel
set_option maxRecDepth 20000 in
theorem ggX10_setShell_X10_isKind : GoodIn wsX10_setShell wsX10_isKind := goodIn_r _ [8, 9, 10, 7, 11] (by decide +kernel) (by decide +kernel)
set_option maxRecDepth 20000 in
theorem gX10_setShell_X10_isKind : GoodIn wsX10_setShell (va_wsS RX10 112 yX10_isKind wsX10_isKind) := goodIn_app (goodIn_of _ (by decide +kernel)) ggX10_setShell_X10_isKind
set_option maxRecDepth 20000 in
theorem ggX10_setShell_X10_in : GoodIn wsX10_setShell wsX10_in := goodIn_r _ [11] (by decide +kernel) (by decide +kernel)
set_option maxRecDepth 20000 in
theorem gX10_setShell_X10_in : GoodIn wsX10_setShell (va_wsS RX10 97 yX10_in wsX10_in) := goodIn_app (goodIn_of _ (by decide +kernel)) ggX10_setShell_X10_in
set_option maxRecDepth 20000 in
theorem ggX10_setShell_X10_goes : GoodIn wsX10_setShell wsX10_goes := goodIn_r _ [15, 16, 25, 26, 27, 28, 29, 30, 31, 32, 33, 34, 35, 36, 37, 38, 39, 40, 41, 42, 43, 44, 45, 46, 47, 48, 49, 50, 51, 52, 53] (by decide +kernel) (by decide +kernel)
set_option maxRecDepth 20000 in
theorem gX10_setShell_X10_goes : GoodIn wsX10_setShell (wsV RX10 108 RX10 yX10_goes wsX10_goes) := goodIn_app (goodIn_of _ (by decide +kernel)) ggX10_setShell_X10_goes
set_option maxRecDepth 20000 in
theorem ggX10_setShell_X10_flies : GoodIn wsX10_setShell wsX10_flies := goodIn_r _ [20, 21, 22, 1, 4, 23, 24, 2, 25, 26, 27, 28, 29, 30, 31, 32, 33, 34, 35, 36, 37, 38, 39, 40, 41, 42, 43, 44, 45, 46, 47, 48, 49, 50, 51, 52, 53] (by decide +kernel) (by decide +kernel)
set_option maxRecDepth 20000 in
theorem gX10_setShell_X10_flies : GoodIn wsX10_setShell (wsV RX10 90 RX10 yX10_flies wsX10_flies) := goodIn_app (goodIn_of _ (by decide +kernel)) ggX10_setShell_X10_flies
theorem dX10_setShell_0 : decode cX10_setShell 0 = .ok (.aload_n 0, 1) := by decide +kernel
theorem dX10_setShell_1 : decode cX10_setShell 1 = .ok (.iload_n 1, 1) := by decide +kernel
theorem dX10_setShell_2 : decode cX10_setShell 2 = .ok (.invokestatic 112, 3) := by decide +kernel
theorem dX10_setShell_5 : decode cX10_setShell 5 = .ok (.ifCond .eq 38, 3) := by decide +kernel
theorem dX10_setShell_8 : decode cX10_setShell 8 = .ok (.iload_n 2, 1) := by decide +kernel
theorem dX10_setShell_9 : decode cX10_setShell 9 = .ok (.iconst 1, 1) := by decide +kernel
theorem dX10_setShell_10 : decode cX10_setShell 10 = .ok (.sipush 200, 3) := by decide +kernel
theorem dX10_setShell_13 : decode cX10_setShell 13 = .ok (.invokestatic 97, 3) := by decide +kernel
theorem dX10_setShell_16 : decode cX10_setShell 16 = .ok (.ifCond .eq 27, 3) := by decide +kernel
theorem dX10_setShell_19 : decode cX10_setShell 19 = .ok (.iload_n 3, 1) := by decide +kernel
theorem dX10_setShell_20 : decode cX10_setShell 20 = .ok (.iconst 1, 1) := by decide +kernel
theorem dX10_setShell_21 : decode cX10_setShell 21 = .ok (.bipush 100, 2) := by decide +kernel
theorem dX10_setShell_23 : decode cX10_setShell 23 = .ok (.invokestatic 97, 3) := by decide +kernel
theorem dX10_setShell_26 : decode cX10_setShell 26 = .ok (.ifCond .eq 17, 3) := by decide +kernel
theorem dX10_setShell_29 : decode cX10_setShell 29 = .ok (.iload 4, 2) := by decide +kernel
theorem dX10_setShell_31 : decode cX10_setShell 31 = .ok (.iconst 0, 1) := by decide +kernel
theorem dX10_setShell_32 : decode cX10_setShell 32 = .ok (.iconst 3, 1) := by decide +kernel
theorem dX10_setShell_33 : decode cX10_setShell 33 = .ok (.invokestatic 97, 3) := by decide +kernel
theorem dX10_setShell_36 : decode cX10_setShell 36 = .ok (.ifCond .eq 7, 3) := by decide +kernel
theorem dX10_setShell_39 : decode cX10_setShell 39 = .ok (.iconst 1, 1) := by decide +kernel
theorem dX10_setShell_40 : decode cX10_setShell 40 = .ok (.goto 4, 3) := by decide +kernel
theorem dX10_setShell_43 : decode cX10_setShell 43 = .ok (.iconst 0, 1) := by decide +kernel
theorem dX10_setShell_44 : decode cX10_setShell 44 = .ok (.iconst 1, 1) := by decide +kernel
theorem dX10_setShell_45 : decode cX10_setShell 45 = .ok (.invokevirtual 108, 3) := by decide +kernel
theorem dX10_setShell_48 : decode cX10_setShell 48 = .ok (.ifCond .ne 5, 3) := by decide +kernel
theorem dX10_setShell_51 : decode cX10_setShell 51 = .ok (.iconst 0, 1) := by decide +kernel
theorem dX10_setShell_52 : decode cX10_setShell 52 = .ok (.ireturn, 1) := by decide +kernel
theorem dX10_setShell_53 : decode cX10_setShell 53 = .ok (.aload_n 0, 1) := by decide +kernel
theorem dX10_setShell_54 : decode cX10_setShell 54 = .ok (.getfield 13, 3) := by decide +kernel
theorem dX10_setShell_57 : decode cX10_setShell 57 = .ok (.iload_n 1, 1) := by decide +kernel
theorem dX10_setShell_58 : decode cX10_setShell 58 = .ok (.iload_n 2, 1) := by decide +kernel
theorem dX10_setShell_59 : decode cX10_setShell 59 = .ok (.iastore, 1) := by decide +kernel
theorem dX10_setShell_60 : decode cX10_setShell 60 = .ok (.aload_n 0, 1) := by decide +kernel
theorem dX10_setShell_61 : decode cX10_setShell 61 = .ok (.getfield 16, 3) := by decide +kernel
theorem dX10_setShell_64 : decode cX10_setShell 64 = .ok (.iload_n 1, 1) := by decide +kernel
theorem dX10_setShell_65 : decode cX10_setShell 65 = .ok (.iload_n 3, 1) := by decide +kernel
theorem dX10_setShell_66 : decode cX10_setShell 66 = .ok (.iastore, 1) := by decide +kernel
theorem dX10_setShell_67 : decode cX10_setShell 67 = .ok (.aload_n 0, 1) := by decide +kernel
theorem dX10_setShell_68 : decode cX10_setShell 68 = .ok (.getfield 19, 3) := by decide +kernel
theorem dX10_setShell_71 : decode cX10_setShell 71 = .ok (.iload_n 1, 1) := by decide +kernel
theorem dX10_setShell_72 : decode cX10_setShell 72 = .ok (.iload 4, 2) := by decide +kernel
theorem dX10_setShell_74 : decode cX10_setShell 74 = .ok (.iastore, 1) := by decide +kernel
theorem dX10_setShell_75 : decode cX10_setShell 75 = .ok (.aload_n 0, 1) := by decide +kernel
theorem dX10_setShell_76 : decode cX10_setShell 76 = .ok (.iload_n 1, 1) := by decide +kernel
theorem dX10_setShell_77 : decode cX10_setShell 77 = .ok (.invokevirtual 90, 3) := by decide +kernel
theorem dX10_setShell_80 : decode cX10_setShell 80 = .ok (.aload_n 0, 1) := by decide +kernel
theorem dX10_setShell_81 : decode cX10_setShell 81 = .ok (.getfield 22, 3) := by decide +kernel
theorem dX10_setShell_84 : decode cX10_setShell 84 = .ok (.iload_n 1, 1) := by decide +kernel
theorem dX10_setShell_85 : decode cX10_setShell 85 = .ok (.iaload, 1) := by decide +kernel
theorem dX10_setShell_86 : decode cX10_setShell 86 = .ok (.ireturn, 1) := by decide +kernel
set_option maxRecDepth 20000 in
theorem ggX10_setWind_X10_isLayer : GoodIn wsX10_setWind wsX10_isLayer := goodIn_r _ [9, 10, 11, 8, 12] (by decide +kernel) (by decide +kernel)
set_option maxRecDepth 20000 in
theorem gX10_setWind_X10_isLayer : GoodIn wsX10_setWind (va_wsS RX10 116 yX10_isLayer wsX10_isLayer) := goodIn_app (goodIn_of _ (by decide +kernel)) ggX10_setWind_X10_isLayer
set_option maxRecDepth 20000 in
theorem ggX10_setWind_X10_in : GoodIn wsX10_setWind wsX10_in := goodIn_r _ [12] (by decide +kernel) (by decide +kernel)
set_option maxRecDepth 20000 in
theorem gX10_setWind_X10_in : GoodIn wsX10_setWind (va_wsS RX10 97 yX10_in wsX10_in) := goodIn_app (goodIn_of _ (by decide +kernel)) ggX10_setWind_X10_in
set_option maxRecDepth 20000 in
theorem ggX10_setWind_X10_goes : GoodIn wsX10_setWind wsX10_goes := goodIn_r _ [16, 17, 40, 41, 42, 43, 44, 45, 46, 47, 48, 49, 50, 51, 52, 53, 54, 55, 56, 57, 58, 59, 60, 61, 62, 63, 64, 65, 66, 67, 68] (by decide +kernel) (by decide +kernel)
set_option maxRecDepth 20000 in
theorem gX10_setWind_X10_goes : GoodIn wsX10_setWind (wsV RX10 108 RX10 yX10_goes wsX10_goes) := goodIn_app (goodIn_of _ (by decide +kernel)) ggX10_setWind_X10_goes
set_option maxRecDepth 20000 in
theorem ggX10_setWind_X10_isStruck : GoodIn wsX10_setWind wsX10_isStruck := goodIn_r _ [21, 22, 23, 24, 25, 8, 26, 27, 28, 29, 30, 31, 32, 33, 34, 35, 36, 5, 4, 37, 38, 39, 10, 11, 12, 40, 41, 42, 43, 44, 45, 46, 47, 48, 49, 50, 51, 52, 53, 54, 55, 56, 57, 58, 59, 60, 61, 62, 63, 64, 65, 66, 67, 68] (by decide +kernel) (by decide +kernel)
set_option maxRecDepth 20000 in
theorem gX10_setWind_X10_isStruck : GoodIn wsX10_setWind (wsV RX10 119 RX10 yX10_isStruck wsX10_isStruck) := goodIn_app (goodIn_of _ (by decide +kernel)) ggX10_setWind_X10_isStruck
theorem dX10_setWind_0 : decode cX10_setWind 0 = .ok (.aload_n 0, 1) := by decide +kernel
theorem dX10_setWind_1 : decode cX10_setWind 1 = .ok (.iload_n 1, 1) := by decide +kernel
theorem dX10_setWind_2 : decode cX10_setWind 2 = .ok (.invokestatic 116, 3) := by decide +kernel
theorem dX10_setWind_5 : decode cX10_setWind 5 = .ok (.ifCond .eq 29, 3) := by decide +kernel
theorem dX10_setWind_8 : decode cX10_setWind 8 = .ok (.iload_n 2, 1) := by decide +kernel
theorem dX10_setWind_9 : decode cX10_setWind 9 = .ok (.bipush (-100), 2) := by decide +kernel
theorem dX10_setWind_11 : decode cX10_setWind 11 = .ok (.bipush 100, 2) := by decide +kernel
theorem dX10_setWind_13 : decode cX10_setWind 13 = .ok (.invokestatic 97, 3) := by decide +kernel
theorem dX10_setWind_16 : decode cX10_setWind 16 = .ok (.ifCond .eq 18, 3) := by decide +kernel
theorem dX10_setWind_19 : decode cX10_setWind 19 = .ok (.iload_n 3, 1) := by decide +kernel
theorem dX10_setWind_20 : decode cX10_setWind 20 = .ok (.bipush (-100), 2) := by decide +kernel
theorem dX10_setWind_22 : decode cX10_setWind 22 = .ok (.bipush 100, 2) := by decide +kernel
theorem dX10_setWind_24 : decode cX10_setWind 24 = .ok (.invokestatic 97, 3) := by decide +kernel
theorem dX10_setWind_27 : decode cX10_setWind 27 = .ok (.ifCond .eq 7, 3) := by decide +kernel
theorem dX10_setWind_30 : decode cX10_setWind 30 = .ok (.iconst 1, 1) := by decide +kernel
theorem dX10_setWind_31 : decode cX10_setWind 31 = .ok (.goto 4, 3) := by decide +kernel
theorem dX10_setWind_34 : decode cX10_setWind 34 = .ok (.iconst 0, 1) := by decide +kernel
theorem dX10_setWind_35 : decode cX10_setWind 35 = .ok (.iconst 1, 1) := by decide +kernel
theorem dX10_setWind_36 : decode cX10_setWind 36 = .ok (.invokevirtual 108, 3) := by decide +kernel
theorem dX10_setWind_39 : decode cX10_setWind 39 = .ok (.ifCond .ne 5, 3) := by decide +kernel
theorem dX10_setWind_42 : decode cX10_setWind 42 = .ok (.iconst 0, 1) := by decide +kernel
theorem dX10_setWind_43 : decode cX10_setWind 43 = .ok (.ireturn, 1) := by decide +kernel
theorem dX10_setWind_44 : decode cX10_setWind 44 = .ok (.iconst 0, 1) := by decide +kernel
theorem dX10_setWind_45 : decode cX10_setWind 45 = .ok (.istore 4, 2) := by decide +kernel
theorem dX10_setWind_47 : decode cX10_setWind 47 = .ok (.iload 4, 2) := by decide +kernel
theorem dX10_setWind_49 : decode cX10_setWind 49 = .ok (.aload_n 0, 1) := by decide +kernel
theorem dX10_setWind_50 : decode cX10_setWind 50 = .ok (.getfield 101, 3) := by decide +kernel
theorem dX10_setWind_53 : decode cX10_setWind 53 = .ok (.if_icmp .ge 40, 3) := by decide +kernel
theorem dX10_setWind_56 : decode cX10_setWind 56 = .ok (.aload_n 0, 1) := by decide +kernel
theorem dX10_setWind_57 : decode cX10_setWind 57 = .ok (.getfield 75, 3) := by decide +kernel
theorem dX10_setWind_60 : decode cX10_setWind 60 = .ok (.iload 4, 2) := by decide +kernel
theorem dX10_setWind_62 : decode cX10_setWind 62 = .ok (.aload_n 0, 1) := by decide +kernel
theorem dX10_setWind_63 : decode cX10_setWind 63 = .ok (.getfield 72, 3) := by decide +kernel
theorem dX10_setWind_66 : decode cX10_setWind 66 = .ok (.iload 4, 2) := by decide +kernel
theorem dX10_setWind_68 : decode cX10_setWind 68 = .ok (.baload, 1) := by decide +kernel
theorem dX10_setWind_69 : decode cX10_setWind 69 = .ok (.ifCond .ne 12, 3) := by decide +kernel
theorem dX10_setWind_72 : decode cX10_setWind 72 = .ok (.aload_n 0, 1) := by decide +kernel
theorem dX10_setWind_73 : decode cX10_setWind 73 = .ok (.iload 4, 2) := by decide +kernel
theorem dX10_setWind_75 : decode cX10_setWind 75 = .ok (.invokevirtual 119, 3) := by decide +kernel
theorem dX10_setWind_78 : decode cX10_setWind 78 = .ok (.ifCond .eq 7, 3) := by decide +kernel
theorem dX10_setWind_81 : decode cX10_setWind 81 = .ok (.iconst 1, 1) := by decide +kernel
theorem dX10_setWind_82 : decode cX10_setWind 82 = .ok (.goto 4, 3) := by decide +kernel
theorem dX10_setWind_85 : decode cX10_setWind 85 = .ok (.iconst 0, 1) := by decide +kernel
theorem dX10_setWind_86 : decode cX10_setWind 86 = .ok (.iastore, 1) := by decide +kernel
theorem dX10_setWind_87 : decode cX10_setWind 87 = .ok (.iinc 4 1, 3) := by decide +kernel
theorem dX10_setWind_90 : decode cX10_setWind 90 = .ok (.goto (-43), 3) := by decide +kernel
theorem dX10_setWind_93 : decode cX10_setWind 93 = .ok (.aload_n 0, 1) := by decide +kernel
theorem dX10_setWind_94 : decode cX10_setWind 94 = .ok (.getfield 37, 3) := by decide +kernel
theorem dX10_setWind_97 : decode cX10_setWind 97 = .ok (.iload_n 1, 1) := by decide +kernel
theorem dX10_setWind_98 : decode cX10_setWind 98 = .ok (.iload_n 2, 1) := by decide +kernel
theorem dX10_setWind_99 : decode cX10_setWind 99 = .ok (.iastore, 1) := by decide +kernel
theorem dX10_setWind_100 : decode cX10_setWind 100 = .ok (.aload_n 0, 1) := by decide +kernel
theorem dX10_setWind_101 : decode cX10_setWind 101 = .ok (.getfield 40, 3) := by decide +kernel
theorem dX10_setWind_104 : decode cX10_setWind 104 = .ok (.iload_n 1, 1) := by decide +kernel
theorem dX10_setWind_105 : decode cX10_setWind 105 = .ok (.iload_n 3, 1) := by decide +kernel
theorem dX10_setWind_106 : decode cX10_setWind 106 = .ok (.iastore, 1) := by decide +kernel
theorem dX10_setWind_107 : decode cX10_setWind 107 = .ok (.iconst 0, 1) := by decide +kernel
theorem dX10_setWind_108 : decode cX10_setWind 108 = .ok (.istore 4, 2) := by decide +kernel
theorem dX10_setWind_110 : decode cX10_setWind 110 = .ok (.iconst 0, 1) := by decide +kernel
theorem dX10_setWind_111 : decode cX10_setWind 111 = .ok (.istore 5, 2) := by decide +kernel
theorem dX10_setWind_113 : decode cX10_setWind 113 = .ok (.iload 5, 2) := by decide +kernel
theorem dX10_setWind_115 : decode cX10_setWind 115 = .ok (.aload_n 0, 1) := by decide +kernel
theorem dX10_setWind_116 : decode cX10_setWind 116 = .ok (.getfield 101, 3) := by decide +kernel
theorem dX10_setWind_119 : decode cX10_setWind 119 = .ok (.if_icmp .ge 38, 3) := by decide +kernel
theorem dX10_setWind_122 : decode cX10_setWind 122 = .ok (.iload 4, 2) := by decide +kernel
theorem dX10_setWind_124 : decode cX10_setWind 124 = .ok (.aload_n 0, 1) := by decide +kernel
theorem dX10_setWind_125 : decode cX10_setWind 125 = .ok (.getfield 75, 3) := by decide +kernel
theorem dX10_setWind_128 : decode cX10_setWind 128 = .ok (.iload 5, 2) := by decide +kernel
theorem dX10_setWind_130 : decode cX10_setWind 130 = .ok (.iaload, 1) := by decide +kernel
theorem dX10_setWind_131 : decode cX10_setWind 131 = .ok (.ifCond .ne 16, 3) := by decide +kernel
theorem dX10_setWind_134 : decode cX10_setWind 134 = .ok (.aload_n 0, 1) := by decide +kernel
theorem dX10_setWind_135 : decode cX10_setWind 135 = .ok (.iload 5, 2) := by decide +kernel
theorem dX10_setWind_137 : decode cX10_setWind 137 = .ok (.invokevirtual 119, 3) := by decide +kernel
theorem dX10_setWind_140 : decode cX10_setWind 140 = .ok (.ifCond .eq 7, 3) := by decide +kernel
theorem dX10_setWind_143 : decode cX10_setWind 143 = .ok (.iconst 1, 1) := by decide +kernel
theorem dX10_setWind_144 : decode cX10_setWind 144 = .ok (.goto 4, 3) := by decide +kernel
theorem dX10_setWind_147 : decode cX10_setWind 147 = .ok (.iconst 0, 1) := by decide +kernel
theorem dX10_setWind_148 : decode cX10_setWind 148 = .ok (.iadd, 1) := by decide +kernel
theorem dX10_setWind_149 : decode cX10_setWind 149 = .ok (.istore 4, 2) := by decide +kernel
theorem dX10_setWind_151 : decode cX10_setWind 151 = .ok (.iinc 5 1, 3) := by decide +kernel
theorem dX10_setWind_154 : decode cX10_setWind 154 = .ok (.goto (-41), 3) := by decide +kernel
theorem dX10_setWind_157 : decode cX10_setWind 157 = .ok (.iload 4, 2) := by decide +kernel
theorem dX10_setWind_159 : decode cX10_setWind 159 = .ok (.ireturn, 1) := by decide +kernel
set_option maxRecDepth 20000 in
theorem ggX10_setPeople_X10_isZone : GoodIn wsX10_setPeople wsX10_isZone := goodIn_r _ [5, 6, 7, 4, 8] (by decide +kernel) (by decide +kernel)
set_option maxRecDepth 20000 in
theorem gX10_setPeople_X10_isZone : GoodIn wsX10_setPeople (va_wsS RX10 104 yX10_isZone wsX10_isZone) := goodIn_app (goodIn_of _ (by decide +kernel)) ggX10_setPeople_X10_isZone
set_option maxRecDepth 20000 in
theorem ggX10_setPeople_X10_goes : GoodIn wsX10_setPeople wsX10_goes := goodIn_r _ [12, 13, 14, 15, 16, 17, 18, 19, 20, 21, 22, 23, 24, 25, 26, 27, 28, 29, 30, 31, 32, 33, 34, 35, 36, 37, 38, 39, 40, 41, 42] (by decide +kernel) (by decide +kernel)
set_option maxRecDepth 20000 in
theorem gX10_setPeople_X10_goes : GoodIn wsX10_setPeople (wsV RX10 108 RX10 yX10_goes wsX10_goes) := goodIn_app (goodIn_of _ (by decide +kernel)) ggX10_setPeople_X10_goes
theorem dX10_setPeople_0 : decode cX10_setPeople 0 = .ok (.aload_n 0, 1) := by decide +kernel
theorem dX10_setPeople_1 : decode cX10_setPeople 1 = .ok (.iload_n 1, 1) := by decide +kernel
theorem dX10_setPeople_2 : decode cX10_setPeople 2 = .ok (.iload_n 2, 1) := by decide +kernel
theorem dX10_setPeople_3 : decode cX10_setPeople 3 = .ok (.invokestatic 104, 3) := by decide +kernel
theorem dX10_setPeople_6 : decode cX10_setPeople 6 = .ok (.ifCond .eq 11, 3) := by decide +kernel
theorem dX10_setPeople_9 : decode cX10_setPeople 9 = .ok (.iload_n 3, 1) := by decide +kernel
theorem dX10_setPeople_10 : decode cX10_setPeople 10 = .ok (.ifCond .lt 7, 3) := by decide +kernel
theorem dX10_setPeople_13 : decode cX10_setPeople 13 = .ok (.iconst 1, 1) := by decide +kernel
theorem dX10_setPeople_14 : decode cX10_setPeople 14 = .ok (.goto 4, 3) := by decide +kernel
theorem dX10_setPeople_17 : decode cX10_setPeople 17 = .ok (.iconst 0, 1) := by decide +kernel
theorem dX10_setPeople_18 : decode cX10_setPeople 18 = .ok (.iconst 1, 1) := by decide +kernel
theorem dX10_setPeople_19 : decode cX10_setPeople 19 = .ok (.invokevirtual 108, 3) := by decide +kernel
theorem dX10_setPeople_22 : decode cX10_setPeople 22 = .ok (.ifCond .ne 5, 3) := by decide +kernel
theorem dX10_setPeople_25 : decode cX10_setPeople 25 = .ok (.iconst 0, 1) := by decide +kernel
theorem dX10_setPeople_26 : decode cX10_setPeople 26 = .ok (.ireturn, 1) := by decide +kernel
theorem dX10_setPeople_27 : decode cX10_setPeople 27 = .ok (.aload_n 0, 1) := by decide +kernel
theorem dX10_setPeople_28 : decode cX10_setPeople 28 = .ok (.getfield 43, 3) := by decide +kernel
theorem dX10_setPeople_31 : decode cX10_setPeople 31 = .ok (.bipush 8, 2) := by decide +kernel
theorem dX10_setPeople_33 : decode cX10_setPeople 33 = .ok (.iload_n 2, 1) := by decide +kernel
theorem dX10_setPeople_34 : decode cX10_setPeople 34 = .ok (.imul, 1) := by decide +kernel
theorem dX10_setPeople_35 : decode cX10_setPeople 35 = .ok (.iload_n 1, 1) := by decide +kernel
theorem dX10_setPeople_36 : decode cX10_setPeople 36 = .ok (.iadd, 1) := by decide +kernel
theorem dX10_setPeople_37 : decode cX10_setPeople 37 = .ok (.iaload, 1) := by decide +kernel
theorem dX10_setPeople_38 : decode cX10_setPeople 38 = .ok (.istore 4, 2) := by decide +kernel
theorem dX10_setPeople_40 : decode cX10_setPeople 40 = .ok (.aload_n 0, 1) := by decide +kernel
theorem dX10_setPeople_41 : decode cX10_setPeople 41 = .ok (.getfield 43, 3) := by decide +kernel
theorem dX10_setPeople_44 : decode cX10_setPeople 44 = .ok (.bipush 8, 2) := by decide +kernel
theorem dX10_setPeople_46 : decode cX10_setPeople 46 = .ok (.iload_n 2, 1) := by decide +kernel
theorem dX10_setPeople_47 : decode cX10_setPeople 47 = .ok (.imul, 1) := by decide +kernel
theorem dX10_setPeople_48 : decode cX10_setPeople 48 = .ok (.iload_n 1, 1) := by decide +kernel
theorem dX10_setPeople_49 : decode cX10_setPeople 49 = .ok (.iadd, 1) := by decide +kernel
theorem dX10_setPeople_50 : decode cX10_setPeople 50 = .ok (.iload_n 3, 1) := by decide +kernel
theorem dX10_setPeople_51 : decode cX10_setPeople 51 = .ok (.iastore, 1) := by decide +kernel
theorem dX10_setPeople_52 : decode cX10_setPeople 52 = .ok (.iload 4, 2) := by decide +kernel
theorem dX10_setPeople_54 : decode cX10_setPeople 54 = .ok (.ireturn, 1) := by decide +kernel
set_option maxRecDepth 20000 in
theorem ggX10_setValue_X10_isZone : GoodIn wsX10_setValue wsX10_isZone := goodIn_r _ [6, 7, 8, 5, 9] (by decide +kernel) (by decide +kernel)
set_option maxRecDepth 20000 in
theorem gX10_setValue_X10_isZone : GoodIn wsX10_setValue (va_wsS RX10 104 yX10_isZone wsX10_isZone) := goodIn_app (goodIn_of _ (by decide +kernel)) ggX10_setValue_X10_isZone
set_option maxRecDepth 20000 in
theorem ggX10_setValue_X10_in : GoodIn wsX10_setValue wsX10_in := goodIn_r _ [9] (by decide +kernel) (by decide +kernel)
set_option maxRecDepth 20000 in
theorem gX10_setValue_X10_in : GoodIn wsX10_setValue (va_wsS RX10 97 yX10_in wsX10_in) := goodIn_app (goodIn_of _ (by decide +kernel)) ggX10_setValue_X10_in
set_option maxRecDepth 20000 in
theorem ggX10_setValue_X10_goes : GoodIn wsX10_setValue wsX10_goes := goodIn_r _ [13, 14, 15, 16, 17, 18, 19, 20, 21, 22, 23, 24, 25, 26, 27, 28, 29, 30, 31, 32, 33, 34, 35, 36, 37, 38, 39, 40, 41, 42, 43] (by decide +kernel) (by decide +kernel)
set_option maxRecDepth 20000 in
theorem gX10_setValue_X10_goes : GoodIn wsX10_setValue (wsV RX10 108 RX10 yX10_goes wsX10_goes) := goodIn_app (goodIn_of _ (by decide +kernel)) ggX10_setValue_X10_goes
theorem dX10_setValue_0 : decode cX10_setValue 0 = .ok (.aload_n 0, 1) := by decide +kernel
theorem dX10_setValue_1 : decode cX10_setValue 1 = .ok (.iload_n 1, 1) := by decide +kernel
theorem dX10_setValue_2 : decode cX10_setValue 2 = .ok (.iload_n 2, 1) := by decide +kernel
theorem dX10_setValue_3 : decode cX10_setValue 3 = .ok (.invokestatic 104, 3) := by decide +kernel
theorem dX10_setValue_6 : decode cX10_setValue 6 = .ok (.ifCond .eq 17, 3) := by decide +kernel
theorem dX10_setValue_9 : decode cX10_setValue 9 = .ok (.iload_n 3, 1) := by decide +kernel
theorem dX10_setValue_10 : decode cX10_setValue 10 = .ok (.iconst 0, 1) := by decide +kernel
theorem dX10_setValue_11 : decode cX10_setValue 11 = .ok (.ldc 122, 2) := by decide +kernel
theorem dX10_setValue_13 : decode cX10_setValue 13 = .ok (.invokestatic 97, 3) := by decide +kernel
theorem dX10_setValue_16 : decode cX10_setValue 16 = .ok (.ifCond .eq 7, 3) := by decide +kernel
theorem dX10_setValue_19 : decode cX10_setValue 19 = .ok (.iconst 1, 1) := by decide +kernel
theorem dX10_setValue_20 : decode cX10_setValue 20 = .ok (.goto 4, 3) := by decide +kernel
theorem dX10_setValue_23 : decode cX10_setValue 23 = .ok (.iconst 0, 1) := by decide +kernel
theorem dX10_setValue_24 : decode cX10_setValue 24 = .ok (.iconst 1, 1) := by decide +kernel
theorem dX10_setValue_25 : decode cX10_setValue 25 = .ok (.invokevirtual 108, 3) := by decide +kernel
theorem dX10_setValue_28 : decode cX10_setValue 28 = .ok (.ifCond .ne 5, 3) := by decide +kernel
theorem dX10_setValue_31 : decode cX10_setValue 31 = .ok (.iconst 0, 1) := by decide +kernel
theorem dX10_setValue_32 : decode cX10_setValue 32 = .ok (.ireturn, 1) := by decide +kernel
theorem dX10_setValue_33 : decode cX10_setValue 33 = .ok (.aload_n 0, 1) := by decide +kernel
theorem dX10_setValue_34 : decode cX10_setValue 34 = .ok (.getfield 46, 3) := by decide +kernel
theorem dX10_setValue_37 : decode cX10_setValue 37 = .ok (.bipush 8, 2) := by decide +kernel
theorem dX10_setValue_39 : decode cX10_setValue 39 = .ok (.iload_n 2, 1) := by decide +kernel
theorem dX10_setValue_40 : decode cX10_setValue 40 = .ok (.imul, 1) := by decide +kernel
theorem dX10_setValue_41 : decode cX10_setValue 41 = .ok (.iload_n 1, 1) := by decide +kernel
theorem dX10_setValue_42 : decode cX10_setValue 42 = .ok (.iadd, 1) := by decide +kernel
theorem dX10_setValue_43 : decode cX10_setValue 43 = .ok (.iaload, 1) := by decide +kernel
theorem dX10_setValue_44 : decode cX10_setValue 44 = .ok (.istore 4, 2) := by decide +kernel
theorem dX10_setValue_46 : decode cX10_setValue 46 = .ok (.aload_n 0, 1) := by decide +kernel
theorem dX10_setValue_47 : decode cX10_setValue 47 = .ok (.getfield 46, 3) := by decide +kernel
theorem dX10_setValue_50 : decode cX10_setValue 50 = .ok (.bipush 8, 2) := by decide +kernel
theorem dX10_setValue_52 : decode cX10_setValue 52 = .ok (.iload_n 2, 1) := by decide +kernel
theorem dX10_setValue_53 : decode cX10_setValue 53 = .ok (.imul, 1) := by decide +kernel
theorem dX10_setValue_54 : decode cX10_setValue 54 = .ok (.iload_n 1, 1) := by decide +kernel
theorem dX10_setValue_55 : decode cX10_setValue 55 = .ok (.iadd, 1) := by decide +kernel
theorem dX10_setValue_56 : decode cX10_setValue 56 = .ok (.iload_n 3, 1) := by decide +kernel
theorem dX10_setValue_57 : decode cX10_setValue 57 = .ok (.iastore, 1) := by decide +kernel
theorem dX10_setValue_58 : decode cX10_setValue 58 = .ok (.iload 4, 2) := by decide +kernel
theorem dX10_setValue_60 : decode cX10_setValue 60 = .ok (.ireturn, 1) := by decide +kernel
set_option maxRecDepth 20000 in
theorem ggX10_peopled_X10_told : GoodIn wsX10_peopled wsX10_told := goodIn_r _ [6, 7, 8, 9, 10, 11, 12, 13, 14, 15, 16, 17, 18, 19, 20, 21, 22, 23, 24, 25, 26, 27, 28, 29, 30, 31, 32, 33, 34, 35, 36] (by decide +kernel) (by decide +kernel)
set_option maxRecDepth 20000 in
theorem gX10_peopled_X10_told : GoodIn wsX10_peopled (wsV RX10 123 RX10 yX10_told wsX10_told) := goodIn_app (goodIn_of _ (by decide +kernel)) ggX10_peopled_X10_told
theorem dX10_peopled_0 : decode cX10_peopled 0 = .ok (.iconst 0, 1) := by decide +kernel
theorem dX10_peopled_1 : decode cX10_peopled 1 = .ok (.istore_n 1, 1) := by decide +kernel
theorem dX10_peopled_2 : decode cX10_peopled 2 = .ok (.iconst 0, 1) := by decide +kernel
theorem dX10_peopled_3 : decode cX10_peopled 3 = .ok (.istore_n 2, 1) := by decide +kernel
theorem dX10_peopled_4 : decode cX10_peopled 4 = .ok (.iload_n 2, 1) := by decide +kernel
theorem dX10_peopled_5 : decode cX10_peopled 5 = .ok (.bipush 64, 2) := by decide +kernel
theorem dX10_peopled_7 : decode cX10_peopled 7 = .ok (.if_icmp .ge 26, 3) := by decide +kernel
theorem dX10_peopled_10 : decode cX10_peopled 10 = .ok (.iload_n 1, 1) := by decide +kernel
theorem dX10_peopled_11 : decode cX10_peopled 11 = .ok (.aload_n 0, 1) := by decide +kernel
theorem dX10_peopled_12 : decode cX10_peopled 12 = .ok (.getfield 43, 3) := by decide +kernel
theorem dX10_peopled_15 : decode cX10_peopled 15 = .ok (.iload_n 2, 1) := by decide +kernel
theorem dX10_peopled_16 : decode cX10_peopled 16 = .ok (.iaload, 1) := by decide +kernel
theorem dX10_peopled_17 : decode cX10_peopled 17 = .ok (.ifCond .le 7, 3) := by decide +kernel
theorem dX10_peopled_20 : decode cX10_peopled 20 = .ok (.iconst 1, 1) := by decide +kernel
theorem dX10_peopled_21 : decode cX10_peopled 21 = .ok (.goto 4, 3) := by decide +kernel
theorem dX10_peopled_24 : decode cX10_peopled 24 = .ok (.iconst 0, 1) := by decide +kernel
theorem dX10_peopled_25 : decode cX10_peopled 25 = .ok (.iadd, 1) := by decide +kernel
theorem dX10_peopled_26 : decode cX10_peopled 26 = .ok (.istore_n 1, 1) := by decide +kernel
theorem dX10_peopled_27 : decode cX10_peopled 27 = .ok (.iinc 2 1, 3) := by decide +kernel
theorem dX10_peopled_30 : decode cX10_peopled 30 = .ok (.goto (-26), 3) := by decide +kernel
theorem dX10_peopled_33 : decode cX10_peopled 33 = .ok (.aload_n 0, 1) := by decide +kernel
theorem dX10_peopled_34 : decode cX10_peopled 34 = .ok (.iload_n 1, 1) := by decide +kernel
theorem dX10_peopled_35 : decode cX10_peopled 35 = .ok (.invokevirtual 123, 3) := by decide +kernel
theorem dX10_peopled_38 : decode cX10_peopled 38 = .ok (.ireturn, 1) := by decide +kernel
set_option maxRecDepth 20000 in
theorem ggX10_flight_X10_isKind : GoodIn wsX10_flight wsX10_isKind := goodIn_r _ [5, 6, 7, 4, 8] (by decide +kernel) (by decide +kernel)
set_option maxRecDepth 20000 in
theorem gX10_flight_X10_isKind : GoodIn wsX10_flight (va_wsS RX10 112 yX10_isKind wsX10_isKind) := goodIn_app (goodIn_of _ (by decide +kernel)) ggX10_flight_X10_isKind
set_option maxRecDepth 20000 in
theorem ggX10_flight_X10_goes : GoodIn wsX10_flight wsX10_goes := goodIn_r _ [12, 13, 14, 15, 16, 17, 18, 19, 20, 21, 22, 23, 24, 25, 26, 27, 28, 29, 30, 31, 32, 33, 34, 35, 36, 37, 38, 39, 40, 41, 42] (by decide +kernel) (by decide +kernel)
set_option maxRecDepth 20000 in
theorem gX10_flight_X10_goes : GoodIn wsX10_flight (wsV RX10 108 RX10 yX10_goes wsX10_goes) := goodIn_app (goodIn_of _ (by decide +kernel)) ggX10_flight_X10_goes
theorem dX10_flight_0 : decode cX10_flight 0 = .ok (.aload_n 0, 1) := by decide +kernel
theorem dX10_flight_1 : decode cX10_flight 1 = .ok (.iload_n 1, 1) := by decide +kernel
theorem dX10_flight_2 : decode cX10_flight 2 = .ok (.invokestatic 112, 3) := by decide +kernel
theorem dX10_flight_5 : decode cX10_flight 5 = .ok (.iconst 1, 1) := by decide +kernel
theorem dX10_flight_6 : decode cX10_flight 6 = .ok (.invokevirtual 108, 3) := by decide +kernel
theorem dX10_flight_9 : decode cX10_flight 9 = .ok (.ifCond .eq 12, 3) := by decide +kernel
theorem dX10_flight_12 : decode cX10_flight 12 = .ok (.aload_n 0, 1) := by decide +kernel
theorem dX10_flight_13 : decode cX10_flight 13 = .ok (.getfield 25, 3) := by decide +kernel
theorem dX10_flight_16 : decode cX10_flight 16 = .ok (.iload_n 1, 1) := by decide +kernel
theorem dX10_flight_17 : decode cX10_flight 17 = .ok (.iaload, 1) := by decide +kernel
theorem dX10_flight_18 : decode cX10_flight 18 = .ok (.goto 4, 3) := by decide +kernel
theorem dX10_flight_21 : decode cX10_flight 21 = .ok (.iconst 0, 1) := by decide +kernel
theorem dX10_flight_22 : decode cX10_flight 22 = .ok (.ireturn, 1) := by decide +kernel
set_option maxRecDepth 20000 in
theorem ggX10_inLayer_X10_isKind : GoodIn wsX10_inLayer wsX10_isKind := goodIn_r _ [5, 6, 7, 4, 8] (by decide +kernel) (by decide +kernel)
set_option maxRecDepth 20000 in
theorem gX10_inLayer_X10_isKind : GoodIn wsX10_inLayer (va_wsS RX10 112 yX10_isKind wsX10_isKind) := goodIn_app (goodIn_of _ (by decide +kernel)) ggX10_inLayer_X10_isKind
set_option maxRecDepth 20000 in
theorem ggX10_inLayer_X10_isLayer : GoodIn wsX10_inLayer wsX10_isLayer := goodIn_r _ [11, 6, 7, 4, 8] (by decide +kernel) (by decide +kernel)
set_option maxRecDepth 20000 in
theorem gX10_inLayer_X10_isLayer : GoodIn wsX10_inLayer (va_wsS RX10 116 yX10_isLayer wsX10_isLayer) := goodIn_app (goodIn_of _ (by decide +kernel)) ggX10_inLayer_X10_isLayer
set_option maxRecDepth 20000 in
theorem ggX10_inLayer_X10_goes : GoodIn wsX10_inLayer wsX10_goes := goodIn_r _ [15, 16, 17, 18, 19, 20, 21, 22, 23, 24, 25, 26, 27, 28, 29, 30, 31, 32, 33, 34, 35, 36, 37, 38, 39, 40, 41, 42, 43, 44, 45] (by decide +kernel) (by decide +kernel)
set_option maxRecDepth 20000 in
theorem gX10_inLayer_X10_goes : GoodIn wsX10_inLayer (wsV RX10 108 RX10 yX10_goes wsX10_goes) := goodIn_app (goodIn_of _ (by decide +kernel)) ggX10_inLayer_X10_goes
theorem dX10_inLayer_0 : decode cX10_inLayer 0 = .ok (.aload_n 0, 1) := by decide +kernel
theorem dX10_inLayer_1 : decode cX10_inLayer 1 = .ok (.iload_n 1, 1) := by decide +kernel
theorem dX10_inLayer_2 : decode cX10_inLayer 2 = .ok (.invokestatic 112, 3) := by decide +kernel
theorem dX10_inLayer_5 : decode cX10_inLayer 5 = .ok (.ifCond .eq 14, 3) := by decide +kernel
theorem dX10_inLayer_8 : decode cX10_inLayer 8 = .ok (.iload_n 2, 1) := by decide +kernel
theorem dX10_inLayer_9 : decode cX10_inLayer 9 = .ok (.invokestatic 116, 3) := by decide +kernel
theorem dX10_inLayer_12 : decode cX10_inLayer 12 = .ok (.ifCond .eq 7, 3) := by decide +kernel
theorem dX10_inLayer_15 : decode cX10_inLayer 15 = .ok (.iconst 1, 1) := by decide +kernel
theorem dX10_inLayer_16 : decode cX10_inLayer 16 = .ok (.goto 4, 3) := by decide +kernel
theorem dX10_inLayer_19 : decode cX10_inLayer 19 = .ok (.iconst 0, 1) := by decide +kernel
theorem dX10_inLayer_20 : decode cX10_inLayer 20 = .ok (.iconst 1, 1) := by decide +kernel
theorem dX10_inLayer_21 : decode cX10_inLayer 21 = .ok (.invokevirtual 108, 3) := by decide +kernel
theorem dX10_inLayer_24 : decode cX10_inLayer 24 = .ok (.ifCond .eq 16, 3) := by decide +kernel
theorem dX10_inLayer_27 : decode cX10_inLayer 27 = .ok (.aload_n 0, 1) := by decide +kernel
theorem dX10_inLayer_28 : decode cX10_inLayer 28 = .ok (.getfield 31, 3) := by decide +kernel
theorem dX10_inLayer_31 : decode cX10_inLayer 31 = .ok (.iconst 4, 1) := by decide +kernel
theorem dX10_inLayer_32 : decode cX10_inLayer 32 = .ok (.iload_n 1, 1) := by decide +kernel
theorem dX10_inLayer_33 : decode cX10_inLayer 33 = .ok (.imul, 1) := by decide +kernel
theorem dX10_inLayer_34 : decode cX10_inLayer 34 = .ok (.iload_n 2, 1) := by decide +kernel
theorem dX10_inLayer_35 : decode cX10_inLayer 35 = .ok (.iadd, 1) := by decide +kernel
theorem dX10_inLayer_36 : decode cX10_inLayer 36 = .ok (.iaload, 1) := by decide +kernel
theorem dX10_inLayer_37 : decode cX10_inLayer 37 = .ok (.goto 4, 3) := by decide +kernel
theorem dX10_inLayer_40 : decode cX10_inLayer 40 = .ok (.iconst 0, 1) := by decide +kernel
theorem dX10_inLayer_41 : decode cX10_inLayer 41 = .ok (.ireturn, 1) := by decide +kernel
set_option maxRecDepth 20000 in
theorem ggX10_cue_X10_in : GoodIn wsX10_cue wsX10_in := goodIn_r _ [8] (by decide +kernel) (by decide +kernel)
set_option maxRecDepth 20000 in
theorem gX10_cue_X10_in : GoodIn wsX10_cue (va_wsS RX10 97 yX10_in wsX10_in) := goodIn_app (goodIn_of _ (by decide +kernel)) ggX10_cue_X10_in
set_option maxRecDepth 20000 in
theorem ggX10_cue_X10_isKind : GoodIn wsX10_cue wsX10_isKind := goodIn_r _ [11, 5, 6, 7, 8] (by decide +kernel) (by decide +kernel)
set_option maxRecDepth 20000 in
theorem gX10_cue_X10_isKind : GoodIn wsX10_cue (va_wsS RX10 112 yX10_isKind wsX10_isKind) := goodIn_app (goodIn_of _ (by decide +kernel)) ggX10_cue_X10_isKind
set_option maxRecDepth 20000 in
theorem ggX10_cue_X10_goes : GoodIn wsX10_cue wsX10_goes := goodIn_r _ [15, 16, 17, 18, 19, 20, 21, 22, 23, 24, 25, 26, 27, 28, 29, 30, 31, 32, 33, 34, 35, 36, 37, 38, 39, 40, 41, 42, 43, 44, 45] (by decide +kernel) (by decide +kernel)
set_option maxRecDepth 20000 in
theorem gX10_cue_X10_goes : GoodIn wsX10_cue (wsV RX10 108 RX10 yX10_goes wsX10_goes) := goodIn_app (goodIn_of _ (by decide +kernel)) ggX10_cue_X10_goes
theorem dX10_cue_0 : decode cX10_cue 0 = .ok (.aload_n 0, 1) := by decide +kernel
theorem dX10_cue_1 : decode cX10_cue 1 = .ok (.iload_n 1, 1) := by decide +kernel
theorem dX10_cue_2 : decode cX10_cue 2 = .ok (.iconst 0, 1) := by decide +kernel
theorem dX10_cue_3 : decode cX10_cue 3 = .ok (.bipush 100, 2) := by decide +kernel
theorem dX10_cue_5 : decode cX10_cue 5 = .ok (.invokestatic 97, 3) := by decide +kernel
theorem dX10_cue_8 : decode cX10_cue 8 = .ok (.ifCond .eq 23, 3) := by decide +kernel
theorem dX10_cue_11 : decode cX10_cue 11 = .ok (.iload_n 2, 1) := by decide +kernel
theorem dX10_cue_12 : decode cX10_cue 12 = .ok (.invokestatic 112, 3) := by decide +kernel
theorem dX10_cue_15 : decode cX10_cue 15 = .ok (.ifCond .eq 16, 3) := by decide +kernel
theorem dX10_cue_18 : decode cX10_cue 18 = .ok (.iload_n 3, 1) := by decide +kernel
theorem dX10_cue_19 : decode cX10_cue 19 = .ok (.iconst 0, 1) := by decide +kernel
theorem dX10_cue_20 : decode cX10_cue 20 = .ok (.iconst 5, 1) := by decide +kernel
theorem dX10_cue_21 : decode cX10_cue 21 = .ok (.invokestatic 97, 3) := by decide +kernel
theorem dX10_cue_24 : decode cX10_cue 24 = .ok (.ifCond .eq 7, 3) := by decide +kernel
theorem dX10_cue_27 : decode cX10_cue 27 = .ok (.iconst 1, 1) := by decide +kernel
theorem dX10_cue_28 : decode cX10_cue 28 = .ok (.goto 4, 3) := by decide +kernel
theorem dX10_cue_31 : decode cX10_cue 31 = .ok (.iconst 0, 1) := by decide +kernel
theorem dX10_cue_32 : decode cX10_cue 32 = .ok (.aload_n 0, 1) := by decide +kernel
theorem dX10_cue_33 : decode cX10_cue 33 = .ok (.getfield 101, 3) := by decide +kernel
theorem dX10_cue_36 : decode cX10_cue 36 = .ok (.bipush 40, 2) := by decide +kernel
theorem dX10_cue_38 : decode cX10_cue 38 = .ok (.if_icmp .ge 7, 3) := by decide +kernel
theorem dX10_cue_41 : decode cX10_cue 41 = .ok (.iconst 1, 1) := by decide +kernel
theorem dX10_cue_42 : decode cX10_cue 42 = .ok (.goto 4, 3) := by decide +kernel
theorem dX10_cue_45 : decode cX10_cue 45 = .ok (.iconst 0, 1) := by decide +kernel
theorem dX10_cue_46 : decode cX10_cue 46 = .ok (.invokevirtual 108, 3) := by decide +kernel
theorem dX10_cue_49 : decode cX10_cue 49 = .ok (.ifCond .ne 5, 3) := by decide +kernel
theorem dX10_cue_52 : decode cX10_cue 52 = .ok (.iconst 0, 1) := by decide +kernel
theorem dX10_cue_53 : decode cX10_cue 53 = .ok (.ireturn, 1) := by decide +kernel
theorem dX10_cue_54 : decode cX10_cue 54 = .ok (.aload_n 0, 1) := by decide +kernel
theorem dX10_cue_55 : decode cX10_cue 55 = .ok (.getfield 63, 3) := by decide +kernel
theorem dX10_cue_58 : decode cX10_cue 58 = .ok (.aload_n 0, 1) := by decide +kernel
theorem dX10_cue_59 : decode cX10_cue 59 = .ok (.getfield 101, 3) := by decide +kernel
theorem dX10_cue_62 : decode cX10_cue 62 = .ok (.iload_n 1, 1) := by decide +kernel
theorem dX10_cue_63 : decode cX10_cue 63 = .ok (.iastore, 1) := by decide +kernel
theorem dX10_cue_64 : decode cX10_cue 64 = .ok (.aload_n 0, 1) := by decide +kernel
theorem dX10_cue_65 : decode cX10_cue 65 = .ok (.getfield 66, 3) := by decide +kernel
theorem dX10_cue_68 : decode cX10_cue 68 = .ok (.aload_n 0, 1) := by decide +kernel
theorem dX10_cue_69 : decode cX10_cue 69 = .ok (.getfield 101, 3) := by decide +kernel
theorem dX10_cue_72 : decode cX10_cue 72 = .ok (.iload_n 2, 1) := by decide +kernel
theorem dX10_cue_73 : decode cX10_cue 73 = .ok (.iastore, 1) := by decide +kernel
theorem dX10_cue_74 : decode cX10_cue 74 = .ok (.aload_n 0, 1) := by decide +kernel
theorem dX10_cue_75 : decode cX10_cue 75 = .ok (.getfield 69, 3) := by decide +kernel
theorem dX10_cue_78 : decode cX10_cue 78 = .ok (.aload_n 0, 1) := by decide +kernel
theorem dX10_cue_79 : decode cX10_cue 79 = .ok (.getfield 101, 3) := by decide +kernel
theorem dX10_cue_82 : decode cX10_cue 82 = .ok (.iload_n 3, 1) := by decide +kernel
theorem dX10_cue_83 : decode cX10_cue 83 = .ok (.iastore, 1) := by decide +kernel
theorem dX10_cue_84 : decode cX10_cue 84 = .ok (.aload_n 0, 1) := by decide +kernel
theorem dX10_cue_85 : decode cX10_cue 85 = .ok (.dup, 1) := by decide +kernel
theorem dX10_cue_86 : decode cX10_cue 86 = .ok (.getfield 101, 3) := by decide +kernel
theorem dX10_cue_89 : decode cX10_cue 89 = .ok (.iconst 1, 1) := by decide +kernel
theorem dX10_cue_90 : decode cX10_cue 90 = .ok (.iadd, 1) := by decide +kernel
theorem dX10_cue_91 : decode cX10_cue 91 = .ok (.putfield 101, 3) := by decide +kernel
theorem dX10_cue_94 : decode cX10_cue 94 = .ok (.aload_n 0, 1) := by decide +kernel
theorem dX10_cue_95 : decode cX10_cue 95 = .ok (.getfield 101, 3) := by decide +kernel
theorem dX10_cue_98 : decode cX10_cue 98 = .ok (.iconst 1, 1) := by decide +kernel
theorem dX10_cue_99 : decode cX10_cue 99 = .ok (.isub, 1) := by decide +kernel
theorem dX10_cue_100 : decode cX10_cue 100 = .ok (.ireturn, 1) := by decide +kernel
theorem dX10_there_0 : decode cX10_there 0 = .ok (.iconst 0, 1) := by decide +kernel
theorem dX10_there_1 : decode cX10_there 1 = .ok (.istore_n 1, 1) := by decide +kernel
theorem dX10_there_2 : decode cX10_there 2 = .ok (.iconst 0, 1) := by decide +kernel
theorem dX10_there_3 : decode cX10_there 3 = .ok (.istore_n 2, 1) := by decide +kernel
theorem dX10_there_4 : decode cX10_there 4 = .ok (.iload_n 2, 1) := by decide +kernel
theorem dX10_there_5 : decode cX10_there 5 = .ok (.aload_n 0, 1) := by decide +kernel
theorem dX10_there_6 : decode cX10_there 6 = .ok (.getfield 101, 3) := by decide +kernel
theorem dX10_there_9 : decode cX10_there 9 = .ok (.if_icmp .ge 26, 3) := by decide +kernel
theorem dX10_there_12 : decode cX10_there 12 = .ok (.iload_n 1, 1) := by decide +kernel
theorem dX10_there_13 : decode cX10_there 13 = .ok (.aload_n 0, 1) := by decide +kernel
theorem dX10_there_14 : decode cX10_there 14 = .ok (.getfield 72, 3) := by decide +kernel
theorem dX10_there_17 : decode cX10_there 17 = .ok (.iload_n 2, 1) := by decide +kernel
theorem dX10_there_18 : decode cX10_there 18 = .ok (.baload, 1) := by decide +kernel
theorem dX10_there_19 : decode cX10_there 19 = .ok (.ifCond .eq 7, 3) := by decide +kernel
theorem dX10_there_22 : decode cX10_there 22 = .ok (.iconst 0, 1) := by decide +kernel
theorem dX10_there_23 : decode cX10_there 23 = .ok (.goto 4, 3) := by decide +kernel
theorem dX10_there_26 : decode cX10_there 26 = .ok (.iconst 1, 1) := by decide +kernel
theorem dX10_there_27 : decode cX10_there 27 = .ok (.iadd, 1) := by decide +kernel
theorem dX10_there_28 : decode cX10_there 28 = .ok (.istore_n 1, 1) := by decide +kernel
theorem dX10_there_29 : decode cX10_there 29 = .ok (.iinc 2 1, 3) := by decide +kernel
theorem dX10_there_32 : decode cX10_there 32 = .ok (.goto (-28), 3) := by decide +kernel
theorem dX10_there_35 : decode cX10_there 35 = .ok (.iload_n 1, 1) := by decide +kernel
theorem dX10_there_36 : decode cX10_there 36 = .ok (.ireturn, 1) := by decide +kernel
set_option maxRecDepth 20000 in
theorem ggX10_cut_X10_isCue : GoodIn wsX10_cut wsX10_isCue := goodIn_r _ [6, 7, 1, 8, 9, 5, 10, 20, 21, 22, 23, 24, 25, 26, 27, 28, 29, 30, 31, 32, 33, 34, 35, 36, 37, 38, 39, 40, 41, 42, 43, 44, 45, 46, 47, 48] (by decide +kernel) (by decide +kernel)
set_option maxRecDepth 20000 in
theorem gX10_cut_X10_isCue : GoodIn wsX10_cut (wsV RX10 127 RX10 yX10_isCue wsX10_isCue) := goodIn_app (goodIn_of _ (by decide +kernel)) ggX10_cut_X10_isCue
set_option maxRecDepth 20000 in
theorem ggX10_cut_X10_goes : GoodIn wsX10_cut wsX10_goes := goodIn_r _ [14, 15, 20, 21, 22, 23, 24, 25, 26, 27, 28, 29, 30, 31, 32, 33, 34, 35, 36, 37, 38, 39, 40, 41, 42, 43, 44, 45, 46, 47, 48] (by decide +kernel) (by decide +kernel)
set_option maxRecDepth 20000 in
theorem gX10_cut_X10_goes : GoodIn wsX10_cut (wsV RX10 108 RX10 yX10_goes wsX10_goes) := goodIn_app (goodIn_of _ (by decide +kernel)) ggX10_cut_X10_goes
set_option maxRecDepth 20000 in
theorem ggX10_cut_X10_there : GoodIn wsX10_cut wsX10_there := goodIn_r _ [19, 7, 1, 20, 21, 22, 23, 24, 25, 26, 27, 28, 29, 30, 31, 32, 33, 34, 35, 36, 37, 38, 39, 40, 41, 42, 43, 44, 45, 46, 47, 48] (by decide +kernel) (by decide +kernel)
set_option maxRecDepth 20000 in
theorem gX10_cut_X10_there : GoodIn wsX10_cut (wsV RX10 130 RX10 yX10_there wsX10_there) := goodIn_app (goodIn_of _ (by decide +kernel)) ggX10_cut_X10_there
theorem dX10_cut_0 : decode cX10_cut 0 = .ok (.aload_n 0, 1) := by decide +kernel
theorem dX10_cut_1 : decode cX10_cut 1 = .ok (.aload_n 0, 1) := by decide +kernel
theorem dX10_cut_2 : decode cX10_cut 2 = .ok (.iload_n 1, 1) := by decide +kernel
theorem dX10_cut_3 : decode cX10_cut 3 = .ok (.invokevirtual 127, 3) := by decide +kernel
theorem dX10_cut_6 : decode cX10_cut 6 = .ok (.iconst 1, 1) := by decide +kernel
theorem dX10_cut_7 : decode cX10_cut 7 = .ok (.invokevirtual 108, 3) := by decide +kernel
theorem dX10_cut_10 : decode cX10_cut 10 = .ok (.ifCond .ne 5, 3) := by decide +kernel
theorem dX10_cut_13 : decode cX10_cut 13 = .ok (.iconst 0, 1) := by decide +kernel
theorem dX10_cut_14 : decode cX10_cut 14 = .ok (.ireturn, 1) := by decide +kernel
theorem dX10_cut_15 : decode cX10_cut 15 = .ok (.aload_n 0, 1) := by decide +kernel
theorem dX10_cut_16 : decode cX10_cut 16 = .ok (.getfield 72, 3) := by decide +kernel
theorem dX10_cut_19 : decode cX10_cut 19 = .ok (.iload_n 1, 1) := by decide +kernel
theorem dX10_cut_20 : decode cX10_cut 20 = .ok (.iconst 1, 1) := by decide +kernel
theorem dX10_cut_21 : decode cX10_cut 21 = .ok (.bastore, 1) := by decide +kernel
theorem dX10_cut_22 : decode cX10_cut 22 = .ok (.aload_n 0, 1) := by decide +kernel
theorem dX10_cut_23 : decode cX10_cut 23 = .ok (.invokevirtual 130, 3) := by decide +kernel
theorem dX10_cut_26 : decode cX10_cut 26 = .ok (.ireturn, 1) := by decide +kernel
set_option maxRecDepth 20000 in
theorem ggX10_setTempo_X10_in : GoodIn wsX10_setTempo wsX10_in := goodIn_r _ [5] (by decide +kernel) (by decide +kernel)
set_option maxRecDepth 20000 in
theorem gX10_setTempo_X10_in : GoodIn wsX10_setTempo (va_wsS RX10 97 yX10_in wsX10_in) := goodIn_app (goodIn_of _ (by decide +kernel)) ggX10_setTempo_X10_in
set_option maxRecDepth 20000 in
theorem ggX10_setTempo_X10_goes : GoodIn wsX10_setTempo wsX10_goes := goodIn_r _ [9, 10, 11, 12, 13, 14, 15, 16, 17, 18, 19, 20, 21, 22, 23, 24, 25, 26, 27, 28, 29, 30, 31, 32, 33, 34, 35, 36, 37, 38, 39] (by decide +kernel) (by decide +kernel)
set_option maxRecDepth 20000 in
theorem gX10_setTempo_X10_goes : GoodIn wsX10_setTempo (wsV RX10 108 RX10 yX10_goes wsX10_goes) := goodIn_app (goodIn_of _ (by decide +kernel)) ggX10_setTempo_X10_goes
theorem dX10_setTempo_0 : decode cX10_setTempo 0 = .ok (.aload_n 0, 1) := by decide +kernel
theorem dX10_setTempo_1 : decode cX10_setTempo 1 = .ok (.iload_n 1, 1) := by decide +kernel
theorem dX10_setTempo_2 : decode cX10_setTempo 2 = .ok (.iconst 1, 1) := by decide +kernel
theorem dX10_setTempo_3 : decode cX10_setTempo 3 = .ok (.bipush 100, 2) := by decide +kernel
theorem dX10_setTempo_5 : decode cX10_setTempo 5 = .ok (.invokestatic 97, 3) := by decide +kernel
theorem dX10_setTempo_8 : decode cX10_setTempo 8 = .ok (.iconst 1, 1) := by decide +kernel
theorem dX10_setTempo_9 : decode cX10_setTempo 9 = .ok (.invokevirtual 108, 3) := by decide +kernel
theorem dX10_setTempo_12 : decode cX10_setTempo 12 = .ok (.ifCond .ne 5, 3) := by decide +kernel
theorem dX10_setTempo_15 : decode cX10_setTempo 15 = .ok (.iconst 0, 1) := by decide +kernel
theorem dX10_setTempo_16 : decode cX10_setTempo 16 = .ok (.ireturn, 1) := by decide +kernel
theorem dX10_setTempo_17 : decode cX10_setTempo 17 = .ok (.aload_n 0, 1) := by decide +kernel
theorem dX10_setTempo_18 : decode cX10_setTempo 18 = .ok (.getfield 56, 3) := by decide +kernel
theorem dX10_setTempo_21 : decode cX10_setTempo 21 = .ok (.istore_n 2, 1) := by decide +kernel
theorem dX10_setTempo_22 : decode cX10_setTempo 22 = .ok (.aload_n 0, 1) := by decide +kernel
theorem dX10_setTempo_23 : decode cX10_setTempo 23 = .ok (.iload_n 1, 1) := by decide +kernel
theorem dX10_setTempo_24 : decode cX10_setTempo 24 = .ok (.putfield 56, 3) := by decide +kernel
theorem dX10_setTempo_27 : decode cX10_setTempo 27 = .ok (.iload_n 2, 1) := by decide +kernel
theorem dX10_setTempo_28 : decode cX10_setTempo 28 = .ok (.ireturn, 1) := by decide +kernel
theorem dX10_distance_0 : decode cX10_distance 0 = .ok (.aload_n 0, 1) := by decide +kernel
theorem dX10_distance_1 : decode cX10_distance 1 = .ok (.getfield 7, 3) := by decide +kernel
theorem dX10_distance_4 : decode cX10_distance 4 = .ok (.aload_n 0, 1) := by decide +kernel
theorem dX10_distance_5 : decode cX10_distance 5 = .ok (.getfield 69, 3) := by decide +kernel
theorem dX10_distance_8 : decode cX10_distance 8 = .ok (.iload_n 1, 1) := by decide +kernel
theorem dX10_distance_9 : decode cX10_distance 9 = .ok (.iaload, 1) := by decide +kernel
theorem dX10_distance_10 : decode cX10_distance 10 = .ok (.iaload, 1) := by decide +kernel
theorem dX10_distance_11 : decode cX10_distance 11 = .ok (.istore 4, 2) := by decide +kernel
theorem dX10_distance_13 : decode cX10_distance 13 = .ok (.bipush 100, 2) := by decide +kernel
theorem dX10_distance_15 : decode cX10_distance 15 = .ok (.iload_n 2, 1) := by decide +kernel
theorem dX10_distance_16 : decode cX10_distance 16 = .ok (.ifCond .eq 11, 3) := by decide +kernel
theorem dX10_distance_19 : decode cX10_distance 19 = .ok (.iload 4, 2) := by decide +kernel
theorem dX10_distance_21 : decode cX10_distance 21 = .ok (.bipush 8, 2) := by decide +kernel
theorem dX10_distance_23 : decode cX10_distance 23 = .ok (.idiv, 1) := by decide +kernel
theorem dX10_distance_24 : decode cX10_distance 24 = .ok (.goto 8, 3) := by decide +kernel
theorem dX10_distance_27 : decode cX10_distance 27 = .ok (.iload 4, 2) := by decide +kernel
theorem dX10_distance_29 : decode cX10_distance 29 = .ok (.bipush 8, 2) := by decide +kernel
theorem dX10_distance_31 : decode cX10_distance 31 = .ok (.irem, 1) := by decide +kernel
theorem dX10_distance_32 : decode cX10_distance 32 = .ok (.imul, 1) := by decide +kernel
theorem dX10_distance_33 : decode cX10_distance 33 = .ok (.bipush 50, 2) := by decide +kernel
theorem dX10_distance_35 : decode cX10_distance 35 = .ok (.iadd, 1) := by decide +kernel
theorem dX10_distance_36 : decode cX10_distance 36 = .ok (.istore 5, 2) := by decide +kernel
theorem dX10_distance_38 : decode cX10_distance 38 = .ok (.iconst 0, 1) := by decide +kernel
theorem dX10_distance_39 : decode cX10_distance 39 = .ok (.istore 6, 2) := by decide +kernel
theorem dX10_distance_41 : decode cX10_distance 41 = .ok (.iload 6, 2) := by decide +kernel
theorem dX10_distance_43 : decode cX10_distance 43 = .ok (.iconst 4, 1) := by decide +kernel
theorem dX10_distance_44 : decode cX10_distance 44 = .ok (.if_icmp .ge 70, 3) := by decide +kernel
theorem dX10_distance_47 : decode cX10_distance 47 = .ok (.iconst 4, 1) := by decide +kernel
theorem dX10_distance_48 : decode cX10_distance 48 = .ok (.aload_n 0, 1) := by decide +kernel
theorem dX10_distance_49 : decode cX10_distance 49 = .ok (.getfield 66, 3) := by decide +kernel
theorem dX10_distance_52 : decode cX10_distance 52 = .ok (.iload_n 1, 1) := by decide +kernel
theorem dX10_distance_53 : decode cX10_distance 53 = .ok (.iaload, 1) := by decide +kernel
theorem dX10_distance_54 : decode cX10_distance 54 = .ok (.imul, 1) := by decide +kernel
theorem dX10_distance_55 : decode cX10_distance 55 = .ok (.iload 6, 2) := by decide +kernel
theorem dX10_distance_57 : decode cX10_distance 57 = .ok (.iadd, 1) := by decide +kernel
theorem dX10_distance_58 : decode cX10_distance 58 = .ok (.istore 7, 2) := by decide +kernel
theorem dX10_distance_60 : decode cX10_distance 60 = .ok (.iload 5, 2) := by decide +kernel
theorem dX10_distance_62 : decode cX10_distance 62 = .ok (.iload_n 3, 1) := by decide +kernel
theorem dX10_distance_63 : decode cX10_distance 63 = .ok (.ifCond .eq 13, 3) := by decide +kernel
theorem dX10_distance_66 : decode cX10_distance 66 = .ok (.aload_n 0, 1) := by decide +kernel
theorem dX10_distance_67 : decode cX10_distance 67 = .ok (.getfield 31, 3) := by decide +kernel
theorem dX10_distance_70 : decode cX10_distance 70 = .ok (.iload 7, 2) := by decide +kernel
theorem dX10_distance_72 : decode cX10_distance 72 = .ok (.iaload, 1) := by decide +kernel
theorem dX10_distance_73 : decode cX10_distance 73 = .ok (.goto 10, 3) := by decide +kernel
theorem dX10_distance_76 : decode cX10_distance 76 = .ok (.aload_n 0, 1) := by decide +kernel
theorem dX10_distance_77 : decode cX10_distance 77 = .ok (.getfield 34, 3) := by decide +kernel
theorem dX10_distance_80 : decode cX10_distance 80 = .ok (.iload 7, 2) := by decide +kernel
theorem dX10_distance_82 : decode cX10_distance 82 = .ok (.iaload, 1) := by decide +kernel
theorem dX10_distance_83 : decode cX10_distance 83 = .ok (.iload_n 2, 1) := by decide +kernel
theorem dX10_distance_84 : decode cX10_distance 84 = .ok (.ifCond .eq 13, 3) := by decide +kernel
theorem dX10_distance_87 : decode cX10_distance 87 = .ok (.aload_n 0, 1) := by decide +kernel
theorem dX10_distance_88 : decode cX10_distance 88 = .ok (.getfield 40, 3) := by decide +kernel
theorem dX10_distance_91 : decode cX10_distance 91 = .ok (.iload 6, 2) := by decide +kernel
theorem dX10_distance_93 : decode cX10_distance 93 = .ok (.iaload, 1) := by decide +kernel
theorem dX10_distance_94 : decode cX10_distance 94 = .ok (.goto 10, 3) := by decide +kernel
theorem dX10_distance_97 : decode cX10_distance 97 = .ok (.aload_n 0, 1) := by decide +kernel
theorem dX10_distance_98 : decode cX10_distance 98 = .ok (.getfield 37, 3) := by decide +kernel
theorem dX10_distance_101 : decode cX10_distance 101 = .ok (.iload 6, 2) := by decide +kernel
theorem dX10_distance_103 : decode cX10_distance 103 = .ok (.iaload, 1) := by decide +kernel
theorem dX10_distance_104 : decode cX10_distance 104 = .ok (.imul, 1) := by decide +kernel
theorem dX10_distance_105 : decode cX10_distance 105 = .ok (.iadd, 1) := by decide +kernel
theorem dX10_distance_106 : decode cX10_distance 106 = .ok (.istore 5, 2) := by decide +kernel
theorem dX10_distance_108 : decode cX10_distance 108 = .ok (.iinc 6 1, 3) := by decide +kernel
theorem dX10_distance_111 : decode cX10_distance 111 = .ok (.goto (-70), 3) := by decide +kernel
theorem dX10_distance_114 : decode cX10_distance 114 = .ok (.iload 5, 2) := by decide +kernel
theorem dX10_distance_116 : decode cX10_distance 116 = .ok (.ireturn, 1) := by decide +kernel
set_option maxRecDepth 20000 in
theorem ggX10_isInDanger_X10_distance : GoodIn wsX10_isInDanger wsX10_distance := goodIn_r _ [7, 8, 9, 2, 10, 11, 12, 13, 20, 21, 22, 23, 24, 25, 26, 27, 28, 29, 30, 31, 32, 33, 34, 35, 36, 37, 38, 39, 40, 41, 42, 43, 44, 45, 46, 47, 48] (by decide +kernel) (by decide +kernel)
set_option maxRecDepth 20000 in
theorem gX10_isInDanger_X10_distance : GoodIn wsX10_isInDanger (wsV RX10 134 RX10 yX10_distance wsX10_distance) := goodIn_app (goodIn_of _ (by decide +kernel)) ggX10_isInDanger_X10_distance
set_option maxRecDepth 20000 in
theorem ggX10_isInDanger_X10_down : GoodIn wsX10_isInDanger wsX10_down := goodIn_r _ [16] (by decide +kernel) (by decide +kernel)
set_option maxRecDepth 20000 in
theorem gX10_isInDanger_X10_down : GoodIn wsX10_isInDanger (va_wsS RX10 138 yX10_down wsX10_down) := goodIn_app (goodIn_of _ (by decide +kernel)) ggX10_isInDanger_X10_down
set_option maxRecDepth 20000 in
theorem ggX10_isInDanger_X10_in : GoodIn wsX10_isInDanger wsX10_in := goodIn_r _ [19] (by decide +kernel) (by decide +kernel)
set_option maxRecDepth 20000 in
theorem gX10_isInDanger_X10_in : GoodIn wsX10_isInDanger (va_wsS RX10 97 yX10_in wsX10_in) := goodIn_app (goodIn_of _ (by decide +kernel)) ggX10_isInDanger_X10_in
theorem dX10_isInDanger_0 : decode cX10_isInDanger 0 = .ok (.aload_n 0, 1) := by decide +kernel
theorem dX10_isInDanger_1 : decode cX10_isInDanger 1 = .ok (.iload_n 1, 1) := by decide +kernel
theorem dX10_isInDanger_2 : decode cX10_isInDanger 2 = .ok (.iconst 0, 1) := by decide +kernel
theorem dX10_isInDanger_3 : decode cX10_isInDanger 3 = .ok (.iconst 1, 1) := by decide +kernel
theorem dX10_isInDanger_4 : decode cX10_isInDanger 4 = .ok (.invokevirtual 134, 3) := by decide +kernel
theorem dX10_isInDanger_7 : decode cX10_isInDanger 7 = .ok (.invokestatic 138, 3) := by decide +kernel
theorem dX10_isInDanger_10 : decode cX10_isInDanger 10 = .ok (.iload_n 2, 1) := by decide +kernel
theorem dX10_isInDanger_11 : decode cX10_isInDanger 11 = .ok (.bipush 8, 2) := by decide +kernel
theorem dX10_isInDanger_13 : decode cX10_isInDanger 13 = .ok (.irem, 1) := by decide +kernel
theorem dX10_isInDanger_14 : decode cX10_isInDanger 14 = .ok (.isub, 1) := by decide +kernel
theorem dX10_isInDanger_15 : decode cX10_isInDanger 15 = .ok (.istore_n 3, 1) := by decide +kernel
theorem dX10_isInDanger_16 : decode cX10_isInDanger 16 = .ok (.aload_n 0, 1) := by decide +kernel
theorem dX10_isInDanger_17 : decode cX10_isInDanger 17 = .ok (.iload_n 1, 1) := by decide +kernel
theorem dX10_isInDanger_18 : decode cX10_isInDanger 18 = .ok (.iconst 1, 1) := by decide +kernel
theorem dX10_isInDanger_19 : decode cX10_isInDanger 19 = .ok (.iconst 1, 1) := by decide +kernel
theorem dX10_isInDanger_20 : decode cX10_isInDanger 20 = .ok (.invokevirtual 134, 3) := by decide +kernel
theorem dX10_isInDanger_23 : decode cX10_isInDanger 23 = .ok (.invokestatic 138, 3) := by decide +kernel
theorem dX10_isInDanger_26 : decode cX10_isInDanger 26 = .ok (.iload_n 2, 1) := by decide +kernel
theorem dX10_isInDanger_27 : decode cX10_isInDanger 27 = .ok (.bipush 8, 2) := by decide +kernel
theorem dX10_isInDanger_29 : decode cX10_isInDanger 29 = .ok (.idiv, 1) := by decide +kernel
theorem dX10_isInDanger_30 : decode cX10_isInDanger 30 = .ok (.isub, 1) := by decide +kernel
theorem dX10_isInDanger_31 : decode cX10_isInDanger 31 = .ok (.istore 4, 2) := by decide +kernel
theorem dX10_isInDanger_33 : decode cX10_isInDanger 33 = .ok (.aload_n 0, 1) := by decide +kernel
theorem dX10_isInDanger_34 : decode cX10_isInDanger 34 = .ok (.getfield 19, 3) := by decide +kernel
theorem dX10_isInDanger_37 : decode cX10_isInDanger 37 = .ok (.aload_n 0, 1) := by decide +kernel
theorem dX10_isInDanger_38 : decode cX10_isInDanger 38 = .ok (.getfield 66, 3) := by decide +kernel
theorem dX10_isInDanger_41 : decode cX10_isInDanger 41 = .ok (.iload_n 1, 1) := by decide +kernel
theorem dX10_isInDanger_42 : decode cX10_isInDanger 42 = .ok (.iaload, 1) := by decide +kernel
theorem dX10_isInDanger_43 : decode cX10_isInDanger 43 = .ok (.iaload, 1) := by decide +kernel
theorem dX10_isInDanger_44 : decode cX10_isInDanger 44 = .ok (.istore 5, 2) := by decide +kernel
theorem dX10_isInDanger_46 : decode cX10_isInDanger 46 = .ok (.iload_n 3, 1) := by decide +kernel
theorem dX10_isInDanger_47 : decode cX10_isInDanger 47 = .ok (.iload 5, 2) := by decide +kernel
theorem dX10_isInDanger_49 : decode cX10_isInDanger 49 = .ok (.ineg, 1) := by decide +kernel
theorem dX10_isInDanger_50 : decode cX10_isInDanger 50 = .ok (.iload 5, 2) := by decide +kernel
theorem dX10_isInDanger_52 : decode cX10_isInDanger 52 = .ok (.invokestatic 97, 3) := by decide +kernel
theorem dX10_isInDanger_55 : decode cX10_isInDanger 55 = .ok (.ifCond .eq 20, 3) := by decide +kernel
theorem dX10_isInDanger_58 : decode cX10_isInDanger 58 = .ok (.iload 4, 2) := by decide +kernel
theorem dX10_isInDanger_60 : decode cX10_isInDanger 60 = .ok (.iload 5, 2) := by decide +kernel
theorem dX10_isInDanger_62 : decode cX10_isInDanger 62 = .ok (.ineg, 1) := by decide +kernel
theorem dX10_isInDanger_63 : decode cX10_isInDanger 63 = .ok (.iload 5, 2) := by decide +kernel
theorem dX10_isInDanger_65 : decode cX10_isInDanger 65 = .ok (.invokestatic 97, 3) := by decide +kernel
theorem dX10_isInDanger_68 : decode cX10_isInDanger 68 = .ok (.ifCond .eq 7, 3) := by decide +kernel
theorem dX10_isInDanger_71 : decode cX10_isInDanger 71 = .ok (.iconst 1, 1) := by decide +kernel
theorem dX10_isInDanger_72 : decode cX10_isInDanger 72 = .ok (.goto 4, 3) := by decide +kernel
theorem dX10_isInDanger_75 : decode cX10_isInDanger 75 = .ok (.iconst 0, 1) := by decide +kernel
theorem dX10_isInDanger_76 : decode cX10_isInDanger 76 = .ok (.ireturn, 1) := by decide +kernel
set_option maxRecDepth 20000 in
theorem ggX10_isStruck_X10_isInDanger : GoodIn wsX10_isStruck wsX10_isInDanger := goodIn_r _ [6, 7, 8, 9, 10, 11, 5, 12, 13, 14, 15, 16, 17, 18, 19, 20, 21, 22, 23, 24, 25, 26, 27, 28, 29, 30, 31, 32, 33, 34, 35, 36, 37, 38, 39, 40, 41, 42, 43, 44, 45, 46, 47, 48, 49, 50, 51, 52, 53] (by decide +kernel) (by decide +kernel)
set_option maxRecDepth 20000 in
theorem gX10_isStruck_X10_isInDanger : GoodIn wsX10_isStruck (wsV RX10 141 RX10 yX10_isInDanger wsX10_isInDanger) := goodIn_app (goodIn_of _ (by decide +kernel)) ggX10_isStruck_X10_isInDanger
theorem dX10_isStruck_0 : decode cX10_isStruck 0 = .ok (.iconst 0, 1) := by decide +kernel
theorem dX10_isStruck_1 : decode cX10_isStruck 1 = .ok (.istore_n 2, 1) := by decide +kernel
theorem dX10_isStruck_2 : decode cX10_isStruck 2 = .ok (.iconst 0, 1) := by decide +kernel
theorem dX10_isStruck_3 : decode cX10_isStruck 3 = .ok (.istore_n 3, 1) := by decide +kernel
theorem dX10_isStruck_4 : decode cX10_isStruck 4 = .ok (.iload_n 3, 1) := by decide +kernel
theorem dX10_isStruck_5 : decode cX10_isStruck 5 = .ok (.bipush 64, 2) := by decide +kernel
theorem dX10_isStruck_7 : decode cX10_isStruck 7 = .ok (.if_icmp .ge 37, 3) := by decide +kernel
theorem dX10_isStruck_10 : decode cX10_isStruck 10 = .ok (.iload_n 2, 1) := by decide +kernel
theorem dX10_isStruck_11 : decode cX10_isStruck 11 = .ok (.ifCond .ne 21, 3) := by decide +kernel
theorem dX10_isStruck_14 : decode cX10_isStruck 14 = .ok (.aload_n 0, 1) := by decide +kernel
theorem dX10_isStruck_15 : decode cX10_isStruck 15 = .ok (.getfield 43, 3) := by decide +kernel
theorem dX10_isStruck_18 : decode cX10_isStruck 18 = .ok (.iload_n 3, 1) := by decide +kernel
theorem dX10_isStruck_19 : decode cX10_isStruck 19 = .ok (.iaload, 1) := by decide +kernel
theorem dX10_isStruck_20 : decode cX10_isStruck 20 = .ok (.ifCond .le 16, 3) := by decide +kernel
theorem dX10_isStruck_23 : decode cX10_isStruck 23 = .ok (.aload_n 0, 1) := by decide +kernel
theorem dX10_isStruck_24 : decode cX10_isStruck 24 = .ok (.iload_n 1, 1) := by decide +kernel
theorem dX10_isStruck_25 : decode cX10_isStruck 25 = .ok (.iload_n 3, 1) := by decide +kernel
theorem dX10_isStruck_26 : decode cX10_isStruck 26 = .ok (.invokevirtual 141, 3) := by decide +kernel
theorem dX10_isStruck_29 : decode cX10_isStruck 29 = .ok (.ifCond .eq 7, 3) := by decide +kernel
theorem dX10_isStruck_32 : decode cX10_isStruck 32 = .ok (.iconst 1, 1) := by decide +kernel
theorem dX10_isStruck_33 : decode cX10_isStruck 33 = .ok (.goto 4, 3) := by decide +kernel
theorem dX10_isStruck_36 : decode cX10_isStruck 36 = .ok (.iconst 0, 1) := by decide +kernel
theorem dX10_isStruck_37 : decode cX10_isStruck 37 = .ok (.istore_n 2, 1) := by decide +kernel
theorem dX10_isStruck_38 : decode cX10_isStruck 38 = .ok (.iinc 3 1, 3) := by decide +kernel
theorem dX10_isStruck_41 : decode cX10_isStruck 41 = .ok (.goto (-37), 3) := by decide +kernel
theorem dX10_isStruck_44 : decode cX10_isStruck 44 = .ok (.iload_n 2, 1) := by decide +kernel
theorem dX10_isStruck_45 : decode cX10_isStruck 45 = .ok (.ireturn, 1) := by decide +kernel
theorem dX10_isClosed_0 : decode cX10_isClosed 0 = .ok (.iconst 0, 1) := by decide +kernel
theorem dX10_isClosed_1 : decode cX10_isClosed 1 = .ok (.istore_n 2, 1) := by decide +kernel
theorem dX10_isClosed_2 : decode cX10_isClosed 2 = .ok (.iconst 1, 1) := by decide +kernel
theorem dX10_isClosed_3 : decode cX10_isClosed 3 = .ok (.istore_n 3, 1) := by decide +kernel
theorem dX10_isClosed_4 : decode cX10_isClosed 4 = .ok (.iconst 0, 1) := by decide +kernel
theorem dX10_isClosed_5 : decode cX10_isClosed 5 = .ok (.istore 4, 2) := by decide +kernel
theorem dX10_isClosed_7 : decode cX10_isClosed 7 = .ok (.iload 4, 2) := by decide +kernel
theorem dX10_isClosed_9 : decode cX10_isClosed 9 = .ok (.aload_n 0, 1) := by decide +kernel
theorem dX10_isClosed_10 : decode cX10_isClosed 10 = .ok (.getfield 101, 3) := by decide +kernel
theorem dX10_isClosed_13 : decode cX10_isClosed 13 = .ok (.if_icmp .ge 78, 3) := by decide +kernel
theorem dX10_isClosed_16 : decode cX10_isClosed 16 = .ok (.aload_n 0, 1) := by decide +kernel
theorem dX10_isClosed_17 : decode cX10_isClosed 17 = .ok (.getfield 72, 3) := by decide +kernel
theorem dX10_isClosed_20 : decode cX10_isClosed 20 = .ok (.iload 4, 2) := by decide +kernel
theorem dX10_isClosed_22 : decode cX10_isClosed 22 = .ok (.baload, 1) := by decide +kernel
theorem dX10_isClosed_23 : decode cX10_isClosed 23 = .ok (.ifCond .ne 18, 3) := by decide +kernel
theorem dX10_isClosed_26 : decode cX10_isClosed 26 = .ok (.aload_n 0, 1) := by decide +kernel
theorem dX10_isClosed_27 : decode cX10_isClosed 27 = .ok (.getfield 63, 3) := by decide +kernel
theorem dX10_isClosed_30 : decode cX10_isClosed 30 = .ok (.iload 4, 2) := by decide +kernel
theorem dX10_isClosed_32 : decode cX10_isClosed 32 = .ok (.iaload, 1) := by decide +kernel
theorem dX10_isClosed_33 : decode cX10_isClosed 33 = .ok (.iload_n 1, 1) := by decide +kernel
theorem dX10_isClosed_34 : decode cX10_isClosed 34 = .ok (.if_icmp .ne 7, 3) := by decide +kernel
theorem dX10_isClosed_37 : decode cX10_isClosed 37 = .ok (.iconst 1, 1) := by decide +kernel
theorem dX10_isClosed_38 : decode cX10_isClosed 38 = .ok (.goto 4, 3) := by decide +kernel
theorem dX10_isClosed_41 : decode cX10_isClosed 41 = .ok (.iconst 0, 1) := by decide +kernel
theorem dX10_isClosed_42 : decode cX10_isClosed 42 = .ok (.istore 5, 2) := by decide +kernel
theorem dX10_isClosed_44 : decode cX10_isClosed 44 = .ok (.iload_n 2, 1) := by decide +kernel
theorem dX10_isClosed_45 : decode cX10_isClosed 45 = .ok (.ifCond .ne 8, 3) := by decide +kernel
theorem dX10_isClosed_48 : decode cX10_isClosed 48 = .ok (.iload 5, 2) := by decide +kernel
theorem dX10_isClosed_50 : decode cX10_isClosed 50 = .ok (.ifCond .eq 7, 3) := by decide +kernel
theorem dX10_isClosed_53 : decode cX10_isClosed 53 = .ok (.iconst 1, 1) := by decide +kernel
theorem dX10_isClosed_54 : decode cX10_isClosed 54 = .ok (.goto 4, 3) := by decide +kernel
theorem dX10_isClosed_57 : decode cX10_isClosed 57 = .ok (.iconst 0, 1) := by decide +kernel
theorem dX10_isClosed_58 : decode cX10_isClosed 58 = .ok (.istore_n 2, 1) := by decide +kernel
theorem dX10_isClosed_59 : decode cX10_isClosed 59 = .ok (.iload_n 3, 1) := by decide +kernel
theorem dX10_isClosed_60 : decode cX10_isClosed 60 = .ok (.ifCond .eq 23, 3) := by decide +kernel
theorem dX10_isClosed_63 : decode cX10_isClosed 63 = .ok (.iload 5, 2) := by decide +kernel
theorem dX10_isClosed_65 : decode cX10_isClosed 65 = .ok (.ifCond .eq 14, 3) := by decide +kernel
theorem dX10_isClosed_68 : decode cX10_isClosed 68 = .ok (.aload_n 0, 1) := by decide +kernel
theorem dX10_isClosed_69 : decode cX10_isClosed 69 = .ok (.getfield 75, 3) := by decide +kernel
theorem dX10_isClosed_72 : decode cX10_isClosed 72 = .ok (.iload 4, 2) := by decide +kernel
theorem dX10_isClosed_74 : decode cX10_isClosed 74 = .ok (.iaload, 1) := by decide +kernel
theorem dX10_isClosed_75 : decode cX10_isClosed 75 = .ok (.iconst 1, 1) := by decide +kernel
theorem dX10_isClosed_76 : decode cX10_isClosed 76 = .ok (.if_icmp .ne 7, 3) := by decide +kernel
theorem dX10_isClosed_79 : decode cX10_isClosed 79 = .ok (.iconst 1, 1) := by decide +kernel
theorem dX10_isClosed_80 : decode cX10_isClosed 80 = .ok (.goto 4, 3) := by decide +kernel
theorem dX10_isClosed_83 : decode cX10_isClosed 83 = .ok (.iconst 0, 1) := by decide +kernel
theorem dX10_isClosed_84 : decode cX10_isClosed 84 = .ok (.istore_n 3, 1) := by decide +kernel
theorem dX10_isClosed_85 : decode cX10_isClosed 85 = .ok (.iinc 4 1, 3) := by decide +kernel
theorem dX10_isClosed_88 : decode cX10_isClosed 88 = .ok (.goto (-81), 3) := by decide +kernel
theorem dX10_isClosed_91 : decode cX10_isClosed 91 = .ok (.iload_n 2, 1) := by decide +kernel
theorem dX10_isClosed_92 : decode cX10_isClosed 92 = .ok (.ifCond .eq 11, 3) := by decide +kernel
theorem dX10_isClosed_95 : decode cX10_isClosed 95 = .ok (.iload_n 3, 1) := by decide +kernel
theorem dX10_isClosed_96 : decode cX10_isClosed 96 = .ok (.ifCond .eq 7, 3) := by decide +kernel
theorem dX10_isClosed_99 : decode cX10_isClosed 99 = .ok (.iconst 1, 1) := by decide +kernel
theorem dX10_isClosed_100 : decode cX10_isClosed 100 = .ok (.goto 4, 3) := by decide +kernel
theorem dX10_isClosed_103 : decode cX10_isClosed 103 = .ok (.iconst 0, 1) := by decide +kernel
theorem dX10_isClosed_104 : decode cX10_isClosed 104 = .ok (.ireturn, 1) := by decide +kernel
set_option maxRecDepth 20000 in
theorem ggX10_closedAhead_X10_isClosed : GoodIn wsX10_closedAhead wsX10_isClosed := goodIn_r _ [5, 6, 7, 8, 9, 10, 11, 12, 13, 14, 15, 16, 17, 18, 19, 20, 21, 22, 23, 24, 25, 26, 27, 28, 29, 30, 31, 32, 33, 34, 35, 36, 37, 38] (by decide +kernel) (by decide +kernel)
set_option maxRecDepth 20000 in
theorem gX10_closedAhead_X10_isClosed : GoodIn wsX10_closedAhead (wsV RX10 144 RX10 yX10_isClosed wsX10_isClosed) := goodIn_app (goodIn_of _ (by decide +kernel)) ggX10_closedAhead_X10_isClosed
theorem dX10_closedAhead_0 : decode cX10_closedAhead 0 = .ok (.iconst 0, 1) := by decide +kernel
theorem dX10_closedAhead_1 : decode cX10_closedAhead 1 = .ok (.istore_n 2, 1) := by decide +kernel
theorem dX10_closedAhead_2 : decode cX10_closedAhead 2 = .ok (.iconst 0, 1) := by decide +kernel
theorem dX10_closedAhead_3 : decode cX10_closedAhead 3 = .ok (.istore_n 3, 1) := by decide +kernel
theorem dX10_closedAhead_4 : decode cX10_closedAhead 4 = .ok (.iload_n 3, 1) := by decide +kernel
theorem dX10_closedAhead_5 : decode cX10_closedAhead 5 = .ok (.iload_n 1, 1) := by decide +kernel
theorem dX10_closedAhead_6 : decode cX10_closedAhead 6 = .ok (.if_icmp .ge 25, 3) := by decide +kernel
theorem dX10_closedAhead_9 : decode cX10_closedAhead 9 = .ok (.iload_n 2, 1) := by decide +kernel
theorem dX10_closedAhead_10 : decode cX10_closedAhead 10 = .ok (.aload_n 0, 1) := by decide +kernel
theorem dX10_closedAhead_11 : decode cX10_closedAhead 11 = .ok (.iload_n 3, 1) := by decide +kernel
theorem dX10_closedAhead_12 : decode cX10_closedAhead 12 = .ok (.invokevirtual 144, 3) := by decide +kernel
theorem dX10_closedAhead_15 : decode cX10_closedAhead 15 = .ok (.ifCond .eq 7, 3) := by decide +kernel
theorem dX10_closedAhead_18 : decode cX10_closedAhead 18 = .ok (.iconst 1, 1) := by decide +kernel
theorem dX10_closedAhead_19 : decode cX10_closedAhead 19 = .ok (.goto 4, 3) := by decide +kernel
theorem dX10_closedAhead_22 : decode cX10_closedAhead 22 = .ok (.iconst 0, 1) := by decide +kernel
theorem dX10_closedAhead_23 : decode cX10_closedAhead 23 = .ok (.iadd, 1) := by decide +kernel
theorem dX10_closedAhead_24 : decode cX10_closedAhead 24 = .ok (.istore_n 2, 1) := by decide +kernel
theorem dX10_closedAhead_25 : decode cX10_closedAhead 25 = .ok (.iinc 3 1, 3) := by decide +kernel
theorem dX10_closedAhead_28 : decode cX10_closedAhead 28 = .ok (.goto (-24), 3) := by decide +kernel
theorem dX10_closedAhead_31 : decode cX10_closedAhead 31 = .ok (.iload_n 2, 1) := by decide +kernel
theorem dX10_closedAhead_32 : decode cX10_closedAhead 32 = .ok (.ireturn, 1) := by decide +kernel
set_option maxRecDepth 20000 in
theorem ggX10_lays_X10_isStruck : GoodIn wsX10_lays wsX10_isStruck := goodIn_r _ [17, 18, 19, 20, 21, 16, 22, 23, 11, 24, 25, 26, 27, 28, 29, 30, 31, 32, 33, 34, 35, 36, 37, 38, 39, 66, 67, 68, 69, 70, 71, 72, 73, 74, 75, 76, 77, 78, 79, 80, 81, 82, 83, 84, 85, 86, 87, 88, 89, 90, 91, 92, 93, 94] (by decide +kernel) (by decide +kernel)
set_option maxRecDepth 20000 in
theorem gX10_lays_X10_isStruck : GoodIn wsX10_lays (wsV RX10 119 RX10 yX10_isStruck wsX10_isStruck) := goodIn_app (goodIn_of _ (by decide +kernel)) ggX10_lays_X10_isStruck
set_option maxRecDepth 20000 in
theorem ggX10_lays_X10_closedAhead : GoodIn wsX10_lays wsX10_closedAhead := goodIn_r _ [43, 44, 45, 46, 16, 47, 1, 3, 8, 2, 66, 67, 68, 69, 70, 71, 72, 73, 74, 75, 76, 77, 78, 79, 80, 81, 82, 83, 84, 85, 86, 87, 88, 89, 90, 91, 92, 93, 94] (by decide +kernel) (by decide +kernel)
set_option maxRecDepth 20000 in
theorem gX10_lays_X10_closedAhead : GoodIn wsX10_lays (wsV RX10 150 RX10 yX10_closedAhead wsX10_closedAhead) := goodIn_app (goodIn_of _ (by decide +kernel)) ggX10_lays_X10_closedAhead
set_option maxRecDepth 20000 in
theorem ggX10_lays_X10_nextOf : GoodIn wsX10_lays wsX10_nextOf := goodIn_r _ [51, 1, 3, 2, 52, 53, 54, 16, 55, 7, 66, 67, 68, 69, 70, 71, 72, 73, 74, 75, 76, 77, 78, 79, 80, 81, 82, 83, 84, 85, 86, 87, 88, 89, 90, 91, 92, 93, 94] (by decide +kernel) (by decide +kernel)
set_option maxRecDepth 20000 in
theorem gX10_lays_X10_nextOf : GoodIn wsX10_lays (wsV RX10 153 RX10 yX10_nextOf wsX10_nextOf) := goodIn_app (goodIn_of _ (by decide +kernel)) ggX10_lays_X10_nextOf
set_option maxRecDepth 20000 in
theorem ggX10_lays_X10_channelFor : GoodIn wsX10_lays wsX10_channelFor := goodIn_r _ [59, 60, 5, 61, 62, 63, 16, 64, 65, 7, 66, 67, 68, 69, 70, 71, 72, 73, 74, 75, 76, 77, 78, 79, 80, 81, 82, 83, 84, 85, 86, 87, 88, 89, 90, 91, 92, 93, 94] (by decide +kernel) (by decide +kernel)
set_option maxRecDepth 20000 in
theorem gX10_lays_X10_channelFor : GoodIn wsX10_lays (wsV RX10 156 RX10 yX10_channelFor wsX10_channelFor) := goodIn_app (goodIn_of _ (by decide +kernel)) ggX10_lays_X10_channelFor
theorem dX10_lays_0 : decode cX10_lays 0 = .ok (.iconst 0, 1) := by decide +kernel
theorem dX10_lays_1 : decode cX10_lays 1 = .ok (.istore_n 1, 1) := by decide +kernel
theorem dX10_lays_2 : decode cX10_lays 2 = .ok (.iload_n 1, 1) := by decide +kernel
theorem dX10_lays_3 : decode cX10_lays 3 = .ok (.aload_n 0, 1) := by decide +kernel
theorem dX10_lays_4 : decode cX10_lays 4 = .ok (.getfield 101, 3) := by decide +kernel
theorem dX10_lays_7 : decode cX10_lays 7 = .ok (.if_icmp .ge 44, 3) := by decide +kernel
theorem dX10_lays_10 : decode cX10_lays 10 = .ok (.aload_n 0, 1) := by decide +kernel
theorem dX10_lays_11 : decode cX10_lays 11 = .ok (.getfield 75, 3) := by decide +kernel
theorem dX10_lays_14 : decode cX10_lays 14 = .ok (.iload_n 1, 1) := by decide +kernel
theorem dX10_lays_15 : decode cX10_lays 15 = .ok (.aload_n 0, 1) := by decide +kernel
theorem dX10_lays_16 : decode cX10_lays 16 = .ok (.getfield 72, 3) := by decide +kernel
theorem dX10_lays_19 : decode cX10_lays 19 = .ok (.iload_n 1, 1) := by decide +kernel
theorem dX10_lays_20 : decode cX10_lays 20 = .ok (.baload, 1) := by decide +kernel
theorem dX10_lays_21 : decode cX10_lays 21 = .ok (.ifCond .ne 15, 3) := by decide +kernel
theorem dX10_lays_24 : decode cX10_lays 24 = .ok (.aload_n 0, 1) := by decide +kernel
theorem dX10_lays_25 : decode cX10_lays 25 = .ok (.iload_n 1, 1) := by decide +kernel
theorem dX10_lays_26 : decode cX10_lays 26 = .ok (.invokevirtual 119, 3) := by decide +kernel
theorem dX10_lays_29 : decode cX10_lays 29 = .ok (.ifCond .eq 7, 3) := by decide +kernel
theorem dX10_lays_32 : decode cX10_lays 32 = .ok (.iconst 1, 1) := by decide +kernel
theorem dX10_lays_33 : decode cX10_lays 33 = .ok (.goto 4, 3) := by decide +kernel
theorem dX10_lays_36 : decode cX10_lays 36 = .ok (.iconst 0, 1) := by decide +kernel
theorem dX10_lays_37 : decode cX10_lays 37 = .ok (.iastore, 1) := by decide +kernel
theorem dX10_lays_38 : decode cX10_lays 38 = .ok (.aload_n 0, 1) := by decide +kernel
theorem dX10_lays_39 : decode cX10_lays 39 = .ok (.getfield 81, 3) := by decide +kernel
theorem dX10_lays_42 : decode cX10_lays 42 = .ok (.iload_n 1, 1) := by decide +kernel
theorem dX10_lays_43 : decode cX10_lays 43 = .ok (.iconst (-1), 1) := by decide +kernel
theorem dX10_lays_44 : decode cX10_lays 44 = .ok (.iastore, 1) := by decide +kernel
theorem dX10_lays_45 : decode cX10_lays 45 = .ok (.iinc 1 1, 3) := by decide +kernel
theorem dX10_lays_48 : decode cX10_lays 48 = .ok (.goto (-46), 3) := by decide +kernel
theorem dX10_lays_51 : decode cX10_lays 51 = .ok (.iconst 0, 1) := by decide +kernel
theorem dX10_lays_52 : decode cX10_lays 52 = .ok (.istore_n 1, 1) := by decide +kernel
theorem dX10_lays_53 : decode cX10_lays 53 = .ok (.iload_n 1, 1) := by decide +kernel
theorem dX10_lays_54 : decode cX10_lays 54 = .ok (.bipush 32, 2) := by decide +kernel
theorem dX10_lays_56 : decode cX10_lays 56 = .ok (.if_icmp .ge 16, 3) := by decide +kernel
theorem dX10_lays_59 : decode cX10_lays 59 = .ok (.aload_n 0, 1) := by decide +kernel
theorem dX10_lays_60 : decode cX10_lays 60 = .ok (.getfield 87, 3) := by decide +kernel
theorem dX10_lays_63 : decode cX10_lays 63 = .ok (.iload_n 1, 1) := by decide +kernel
theorem dX10_lays_64 : decode cX10_lays 64 = .ok (.iconst (-1), 1) := by decide +kernel
theorem dX10_lays_65 : decode cX10_lays 65 = .ok (.iastore, 1) := by decide +kernel
theorem dX10_lays_66 : decode cX10_lays 66 = .ok (.iinc 1 1, 3) := by decide +kernel
theorem dX10_lays_69 : decode cX10_lays 69 = .ok (.goto (-16), 3) := by decide +kernel
