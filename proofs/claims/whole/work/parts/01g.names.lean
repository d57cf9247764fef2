theorem dX10_lays_72 : decode cX10_lays 72 = .ok (.aload_n 0, 1) := by decide +kernel
theorem dX10_lays_73 : decode cX10_lays 73 = .ok (.iconst 0, 1) := by decide +kernel
theorem dX10_lays_74 : decode cX10_lays 74 = .ok (.putfield 147, 3) := by decide +kernel
theorem dX10_lays_77 : decode cX10_lays 77 = .ok (.iconst 0, 1) := by decide +kernel
theorem dX10_lays_78 : decode cX10_lays 78 = .ok (.istore_n 1, 1) := by decide +kernel
theorem dX10_lays_79 : decode cX10_lays 79 = .ok (.iload_n 1, 1) := by decide +kernel
theorem dX10_lays_80 : decode cX10_lays 80 = .ok (.aload_n 0, 1) := by decide +kernel
theorem dX10_lays_81 : decode cX10_lays 81 = .ok (.getfield 101, 3) := by decide +kernel
theorem dX10_lays_84 : decode cX10_lays 84 = .ok (.if_icmp .ge 62, 3) := by decide +kernel
theorem dX10_lays_87 : decode cX10_lays 87 = .ok (.aload_n 0, 1) := by decide +kernel
theorem dX10_lays_88 : decode cX10_lays 88 = .ok (.getfield 78, 3) := by decide +kernel
theorem dX10_lays_91 : decode cX10_lays 91 = .ok (.iload_n 1, 1) := by decide +kernel
theorem dX10_lays_92 : decode cX10_lays 92 = .ok (.aload_n 0, 1) := by decide +kernel
theorem dX10_lays_93 : decode cX10_lays 93 = .ok (.getfield 72, 3) := by decide +kernel
theorem dX10_lays_96 : decode cX10_lays 96 = .ok (.iload_n 1, 1) := by decide +kernel
theorem dX10_lays_97 : decode cX10_lays 97 = .ok (.baload, 1) := by decide +kernel
theorem dX10_lays_98 : decode cX10_lays 98 = .ok (.ifCond .eq 7, 3) := by decide +kernel
theorem dX10_lays_101 : decode cX10_lays 101 = .ok (.iconst 0, 1) := by decide +kernel
theorem dX10_lays_102 : decode cX10_lays 102 = .ok (.goto 37, 3) := by decide +kernel
theorem dX10_lays_105 : decode cX10_lays 105 = .ok (.aload_n 0, 1) := by decide +kernel
theorem dX10_lays_106 : decode cX10_lays 106 = .ok (.getfield 63, 3) := by decide +kernel
theorem dX10_lays_109 : decode cX10_lays 109 = .ok (.iload_n 1, 1) := by decide +kernel
theorem dX10_lays_110 : decode cX10_lays 110 = .ok (.iaload, 1) := by decide +kernel
theorem dX10_lays_111 : decode cX10_lays 111 = .ok (.aload_n 0, 1) := by decide +kernel
theorem dX10_lays_112 : decode cX10_lays 112 = .ok (.aload_n 0, 1) := by decide +kernel
theorem dX10_lays_113 : decode cX10_lays 113 = .ok (.getfield 63, 3) := by decide +kernel
theorem dX10_lays_116 : decode cX10_lays 116 = .ok (.iload_n 1, 1) := by decide +kernel
theorem dX10_lays_117 : decode cX10_lays 117 = .ok (.iaload, 1) := by decide +kernel
theorem dX10_lays_118 : decode cX10_lays 118 = .ok (.invokevirtual 150, 3) := by decide +kernel
theorem dX10_lays_121 : decode cX10_lays 121 = .ok (.isub, 1) := by decide +kernel
theorem dX10_lays_122 : decode cX10_lays 122 = .ok (.aload_n 0, 1) := by decide +kernel
theorem dX10_lays_123 : decode cX10_lays 123 = .ok (.getfield 56, 3) := by decide +kernel
theorem dX10_lays_126 : decode cX10_lays 126 = .ok (.imul, 1) := by decide +kernel
theorem dX10_lays_127 : decode cX10_lays 127 = .ok (.aload_n 0, 1) := by decide +kernel
theorem dX10_lays_128 : decode cX10_lays 128 = .ok (.getfield 22, 3) := by decide +kernel
theorem dX10_lays_131 : decode cX10_lays 131 = .ok (.aload_n 0, 1) := by decide +kernel
theorem dX10_lays_132 : decode cX10_lays 132 = .ok (.getfield 66, 3) := by decide +kernel
theorem dX10_lays_135 : decode cX10_lays 135 = .ok (.iload_n 1, 1) := by decide +kernel
theorem dX10_lays_136 : decode cX10_lays 136 = .ok (.iaload, 1) := by decide +kernel
theorem dX10_lays_137 : decode cX10_lays 137 = .ok (.iaload, 1) := by decide +kernel
theorem dX10_lays_138 : decode cX10_lays 138 = .ok (.isub, 1) := by decide +kernel
theorem dX10_lays_139 : decode cX10_lays 139 = .ok (.iastore, 1) := by decide +kernel
theorem dX10_lays_140 : decode cX10_lays 140 = .ok (.iinc 1 1, 3) := by decide +kernel
theorem dX10_lays_143 : decode cX10_lays 143 = .ok (.goto (-64), 3) := by decide +kernel
theorem dX10_lays_146 : decode cX10_lays 146 = .ok (.iconst 0, 1) := by decide +kernel
theorem dX10_lays_147 : decode cX10_lays 147 = .ok (.istore_n 1, 1) := by decide +kernel
theorem dX10_lays_148 : decode cX10_lays 148 = .ok (.iload_n 1, 1) := by decide +kernel
theorem dX10_lays_149 : decode cX10_lays 149 = .ok (.aload_n 0, 1) := by decide +kernel
theorem dX10_lays_150 : decode cX10_lays 150 = .ok (.getfield 101, 3) := by decide +kernel
theorem dX10_lays_153 : decode cX10_lays 153 = .ok (.if_icmp .ge 43, 3) := by decide +kernel
theorem dX10_lays_156 : decode cX10_lays 156 = .ok (.aload_n 0, 1) := by decide +kernel
theorem dX10_lays_157 : decode cX10_lays 157 = .ok (.getfield 75, 3) := by decide +kernel
theorem dX10_lays_160 : decode cX10_lays 160 = .ok (.iload_n 1, 1) := by decide +kernel
theorem dX10_lays_161 : decode cX10_lays 161 = .ok (.aload_n 0, 1) := by decide +kernel
theorem dX10_lays_162 : decode cX10_lays 162 = .ok (.getfield 75, 3) := by decide +kernel
theorem dX10_lays_165 : decode cX10_lays 165 = .ok (.iload_n 1, 1) := by decide +kernel
theorem dX10_lays_166 : decode cX10_lays 166 = .ok (.iaload, 1) := by decide +kernel
theorem dX10_lays_167 : decode cX10_lays 167 = .ok (.ifCond .ne 16, 3) := by decide +kernel
theorem dX10_lays_170 : decode cX10_lays 170 = .ok (.aload_n 0, 1) := by decide +kernel
theorem dX10_lays_171 : decode cX10_lays 171 = .ok (.getfield 78, 3) := by decide +kernel
theorem dX10_lays_174 : decode cX10_lays 174 = .ok (.iload_n 1, 1) := by decide +kernel
theorem dX10_lays_175 : decode cX10_lays 175 = .ok (.iaload, 1) := by decide +kernel
theorem dX10_lays_176 : decode cX10_lays 176 = .ok (.ifCond .ge 7, 3) := by decide +kernel
theorem dX10_lays_179 : decode cX10_lays 179 = .ok (.iconst 2, 1) := by decide +kernel
theorem dX10_lays_180 : decode cX10_lays 180 = .ok (.goto 9, 3) := by decide +kernel
theorem dX10_lays_183 : decode cX10_lays 183 = .ok (.aload_n 0, 1) := by decide +kernel
theorem dX10_lays_184 : decode cX10_lays 184 = .ok (.getfield 75, 3) := by decide +kernel
theorem dX10_lays_187 : decode cX10_lays 187 = .ok (.iload_n 1, 1) := by decide +kernel
theorem dX10_lays_188 : decode cX10_lays 188 = .ok (.iaload, 1) := by decide +kernel
theorem dX10_lays_189 : decode cX10_lays 189 = .ok (.iastore, 1) := by decide +kernel
theorem dX10_lays_190 : decode cX10_lays 190 = .ok (.iinc 1 1, 3) := by decide +kernel
theorem dX10_lays_193 : decode cX10_lays 193 = .ok (.goto (-45), 3) := by decide +kernel
theorem dX10_lays_196 : decode cX10_lays 196 = .ok (.aload_n 0, 1) := by decide +kernel
theorem dX10_lays_197 : decode cX10_lays 197 = .ok (.iconst (-1), 1) := by decide +kernel
theorem dX10_lays_198 : decode cX10_lays 198 = .ok (.invokevirtual 153, 3) := by decide +kernel
theorem dX10_lays_201 : decode cX10_lays 201 = .ok (.istore_n 1, 1) := by decide +kernel
theorem dX10_lays_202 : decode cX10_lays 202 = .ok (.iload_n 1, 1) := by decide +kernel
theorem dX10_lays_203 : decode cX10_lays 203 = .ok (.iconst (-1), 1) := by decide +kernel
theorem dX10_lays_204 : decode cX10_lays 204 = .ok (.if_icmp .eq 78, 3) := by decide +kernel
theorem dX10_lays_207 : decode cX10_lays 207 = .ok (.aload_n 0, 1) := by decide +kernel
theorem dX10_lays_208 : decode cX10_lays 208 = .ok (.aload_n 0, 1) := by decide +kernel
theorem dX10_lays_209 : decode cX10_lays 209 = .ok (.getfield 78, 3) := by decide +kernel
theorem dX10_lays_212 : decode cX10_lays 212 = .ok (.iload_n 1, 1) := by decide +kernel
theorem dX10_lays_213 : decode cX10_lays 213 = .ok (.iaload, 1) := by decide +kernel
theorem dX10_lays_214 : decode cX10_lays 214 = .ok (.invokevirtual 156, 3) := by decide +kernel
theorem dX10_lays_217 : decode cX10_lays 217 = .ok (.istore_n 2, 1) := by decide +kernel
theorem dX10_lays_218 : decode cX10_lays 218 = .ok (.aload_n 0, 1) := by decide +kernel
theorem dX10_lays_219 : decode cX10_lays 219 = .ok (.getfield 81, 3) := by decide +kernel
theorem dX10_lays_222 : decode cX10_lays 222 = .ok (.iload_n 1, 1) := by decide +kernel
theorem dX10_lays_223 : decode cX10_lays 223 = .ok (.iload_n 2, 1) := by decide +kernel
theorem dX10_lays_224 : decode cX10_lays 224 = .ok (.iastore, 1) := by decide +kernel
theorem dX10_lays_225 : decode cX10_lays 225 = .ok (.aload_n 0, 1) := by decide +kernel
theorem dX10_lays_226 : decode cX10_lays 226 = .ok (.getfield 75, 3) := by decide +kernel
theorem dX10_lays_229 : decode cX10_lays 229 = .ok (.iload_n 1, 1) := by decide +kernel
theorem dX10_lays_230 : decode cX10_lays 230 = .ok (.iload_n 2, 1) := by decide +kernel
theorem dX10_lays_231 : decode cX10_lays 231 = .ok (.iconst (-1), 1) := by decide +kernel
theorem dX10_lays_232 : decode cX10_lays 232 = .ok (.if_icmp .ne 7, 3) := by decide +kernel
theorem dX10_lays_235 : decode cX10_lays 235 = .ok (.iconst 3, 1) := by decide +kernel
theorem dX10_lays_236 : decode cX10_lays 236 = .ok (.goto 4, 3) := by decide +kernel
theorem dX10_lays_239 : decode cX10_lays 239 = .ok (.iconst 0, 1) := by decide +kernel
theorem dX10_lays_240 : decode cX10_lays 240 = .ok (.iastore, 1) := by decide +kernel
theorem dX10_lays_241 : decode cX10_lays 241 = .ok (.iload_n 2, 1) := by decide +kernel
theorem dX10_lays_242 : decode cX10_lays 242 = .ok (.iconst (-1), 1) := by decide +kernel
theorem dX10_lays_243 : decode cX10_lays 243 = .ok (.if_icmp .eq 30, 3) := by decide +kernel
theorem dX10_lays_246 : decode cX10_lays 246 = .ok (.aload_n 0, 1) := by decide +kernel
theorem dX10_lays_247 : decode cX10_lays 247 = .ok (.getfield 87, 3) := by decide +kernel
theorem dX10_lays_250 : decode cX10_lays 250 = .ok (.iload_n 2, 1) := by decide +kernel
theorem dX10_lays_251 : decode cX10_lays 251 = .ok (.iload_n 1, 1) := by decide +kernel
theorem dX10_lays_252 : decode cX10_lays 252 = .ok (.iastore, 1) := by decide +kernel
theorem dX10_lays_253 : decode cX10_lays 253 = .ok (.aload_n 0, 1) := by decide +kernel
theorem dX10_lays_254 : decode cX10_lays 254 = .ok (.getfield 84, 3) := by decide +kernel
theorem dX10_lays_257 : decode cX10_lays 257 = .ok (.aload_n 0, 1) := by decide +kernel
theorem dX10_lays_258 : decode cX10_lays 258 = .ok (.getfield 147, 3) := by decide +kernel
theorem dX10_lays_261 : decode cX10_lays 261 = .ok (.iload_n 1, 1) := by decide +kernel
theorem dX10_lays_262 : decode cX10_lays 262 = .ok (.iastore, 1) := by decide +kernel
theorem dX10_lays_263 : decode cX10_lays 263 = .ok (.aload_n 0, 1) := by decide +kernel
theorem dX10_lays_264 : decode cX10_lays 264 = .ok (.dup, 1) := by decide +kernel
theorem dX10_lays_265 : decode cX10_lays 265 = .ok (.getfield 147, 3) := by decide +kernel
theorem dX10_lays_268 : decode cX10_lays 268 = .ok (.iconst 1, 1) := by decide +kernel
theorem dX10_lays_269 : decode cX10_lays 269 = .ok (.iadd, 1) := by decide +kernel
theorem dX10_lays_270 : decode cX10_lays 270 = .ok (.putfield 147, 3) := by decide +kernel
theorem dX10_lays_273 : decode cX10_lays 273 = .ok (.aload_n 0, 1) := by decide +kernel
theorem dX10_lays_274 : decode cX10_lays 274 = .ok (.iload_n 1, 1) := by decide +kernel
theorem dX10_lays_275 : decode cX10_lays 275 = .ok (.invokevirtual 153, 3) := by decide +kernel
theorem dX10_lays_278 : decode cX10_lays 278 = .ok (.istore_n 1, 1) := by decide +kernel
theorem dX10_lays_279 : decode cX10_lays 279 = .ok (.goto (-77), 3) := by decide +kernel
theorem dX10_lays_282 : decode cX10_lays 282 = .ok (.return_, 1) := by decide +kernel
theorem dX10_isAhead_0 : decode cX10_isAhead 0 = .ok (.aload_n 0, 1) := by decide +kernel
theorem dX10_isAhead_1 : decode cX10_isAhead 1 = .ok (.getfield 78, 3) := by decide +kernel
theorem dX10_isAhead_4 : decode cX10_isAhead 4 = .ok (.iload_n 1, 1) := by decide +kernel
theorem dX10_isAhead_5 : decode cX10_isAhead 5 = .ok (.iaload, 1) := by decide +kernel
theorem dX10_isAhead_6 : decode cX10_isAhead 6 = .ok (.aload_n 0, 1) := by decide +kernel
theorem dX10_isAhead_7 : decode cX10_isAhead 7 = .ok (.getfield 78, 3) := by decide +kernel
theorem dX10_isAhead_10 : decode cX10_isAhead 10 = .ok (.iload_n 2, 1) := by decide +kernel
theorem dX10_isAhead_11 : decode cX10_isAhead 11 = .ok (.iaload, 1) := by decide +kernel
theorem dX10_isAhead_12 : decode cX10_isAhead 12 = .ok (.if_icmp .lt 23, 3) := by decide +kernel
theorem dX10_isAhead_15 : decode cX10_isAhead 15 = .ok (.aload_n 0, 1) := by decide +kernel
theorem dX10_isAhead_16 : decode cX10_isAhead 16 = .ok (.getfield 78, 3) := by decide +kernel
theorem dX10_isAhead_19 : decode cX10_isAhead 19 = .ok (.iload_n 1, 1) := by decide +kernel
theorem dX10_isAhead_20 : decode cX10_isAhead 20 = .ok (.iaload, 1) := by decide +kernel
theorem dX10_isAhead_21 : decode cX10_isAhead 21 = .ok (.aload_n 0, 1) := by decide +kernel
theorem dX10_isAhead_22 : decode cX10_isAhead 22 = .ok (.getfield 78, 3) := by decide +kernel
theorem dX10_isAhead_25 : decode cX10_isAhead 25 = .ok (.iload_n 2, 1) := by decide +kernel
theorem dX10_isAhead_26 : decode cX10_isAhead 26 = .ok (.iaload, 1) := by decide +kernel
theorem dX10_isAhead_27 : decode cX10_isAhead 27 = .ok (.if_icmp .ne 12, 3) := by decide +kernel
theorem dX10_isAhead_30 : decode cX10_isAhead 30 = .ok (.iload_n 1, 1) := by decide +kernel
theorem dX10_isAhead_31 : decode cX10_isAhead 31 = .ok (.iload_n 2, 1) := by decide +kernel
theorem dX10_isAhead_32 : decode cX10_isAhead 32 = .ok (.if_icmp .ge 7, 3) := by decide +kernel
theorem dX10_isAhead_35 : decode cX10_isAhead 35 = .ok (.iconst 1, 1) := by decide +kernel
theorem dX10_isAhead_36 : decode cX10_isAhead 36 = .ok (.goto 4, 3) := by decide +kernel
theorem dX10_isAhead_39 : decode cX10_isAhead 39 = .ok (.iconst 0, 1) := by decide +kernel
theorem dX10_isAhead_40 : decode cX10_isAhead 40 = .ok (.ireturn, 1) := by decide +kernel
set_option maxRecDepth 20000 in
theorem ggX10_nextOf_X10_isAhead : GoodIn wsX10_nextOf wsX10_isAhead := goodIn_r _ [8, 9, 10, 11, 12, 13, 14, 15, 16, 17, 18, 19, 20, 21, 22, 23, 24, 25, 26, 27, 28, 29, 30, 31, 32, 33, 34, 35, 36, 37, 38] (by decide +kernel) (by decide +kernel)
set_option maxRecDepth 20000 in
theorem gX10_nextOf_X10_isAhead : GoodIn wsX10_nextOf (wsV RX10 159 RX10 yX10_isAhead wsX10_isAhead) := goodIn_app (goodIn_of _ (by decide +kernel)) ggX10_nextOf_X10_isAhead
theorem dX10_nextOf_0 : decode cX10_nextOf 0 = .ok (.iconst (-1), 1) := by decide +kernel
theorem dX10_nextOf_1 : decode cX10_nextOf 1 = .ok (.istore_n 2, 1) := by decide +kernel
theorem dX10_nextOf_2 : decode cX10_nextOf 2 = .ok (.iconst 0, 1) := by decide +kernel
theorem dX10_nextOf_3 : decode cX10_nextOf 3 = .ok (.istore_n 3, 1) := by decide +kernel
theorem dX10_nextOf_4 : decode cX10_nextOf 4 = .ok (.iload_n 3, 1) := by decide +kernel
theorem dX10_nextOf_5 : decode cX10_nextOf 5 = .ok (.aload_n 0, 1) := by decide +kernel
theorem dX10_nextOf_6 : decode cX10_nextOf 6 = .ok (.getfield 101, 3) := by decide +kernel
theorem dX10_nextOf_9 : decode cX10_nextOf 9 = .ok (.if_icmp .ge 83, 3) := by decide +kernel
theorem dX10_nextOf_12 : decode cX10_nextOf 12 = .ok (.aload_n 0, 1) := by decide +kernel
theorem dX10_nextOf_13 : decode cX10_nextOf 13 = .ok (.getfield 72, 3) := by decide +kernel
theorem dX10_nextOf_16 : decode cX10_nextOf 16 = .ok (.iload_n 3, 1) := by decide +kernel
theorem dX10_nextOf_17 : decode cX10_nextOf 17 = .ok (.baload, 1) := by decide +kernel
theorem dX10_nextOf_18 : decode cX10_nextOf 18 = .ok (.ifCond .ne 40, 3) := by decide +kernel
theorem dX10_nextOf_21 : decode cX10_nextOf 21 = .ok (.aload_n 0, 1) := by decide +kernel
theorem dX10_nextOf_22 : decode cX10_nextOf 22 = .ok (.getfield 75, 3) := by decide +kernel
theorem dX10_nextOf_25 : decode cX10_nextOf 25 = .ok (.iload_n 3, 1) := by decide +kernel
theorem dX10_nextOf_26 : decode cX10_nextOf 26 = .ok (.iaload, 1) := by decide +kernel
theorem dX10_nextOf_27 : decode cX10_nextOf 27 = .ok (.ifCond .eq 13, 3) := by decide +kernel
theorem dX10_nextOf_30 : decode cX10_nextOf 30 = .ok (.aload_n 0, 1) := by decide +kernel
theorem dX10_nextOf_31 : decode cX10_nextOf 31 = .ok (.getfield 75, 3) := by decide +kernel
theorem dX10_nextOf_34 : decode cX10_nextOf 34 = .ok (.iload_n 3, 1) := by decide +kernel
theorem dX10_nextOf_35 : decode cX10_nextOf 35 = .ok (.iaload, 1) := by decide +kernel
theorem dX10_nextOf_36 : decode cX10_nextOf 36 = .ok (.iconst 3, 1) := by decide +kernel
theorem dX10_nextOf_37 : decode cX10_nextOf 37 = .ok (.if_icmp .ne 21, 3) := by decide +kernel
theorem dX10_nextOf_40 : decode cX10_nextOf 40 = .ok (.iload_n 1, 1) := by decide +kernel
theorem dX10_nextOf_41 : decode cX10_nextOf 41 = .ok (.iconst (-1), 1) := by decide +kernel
theorem dX10_nextOf_42 : decode cX10_nextOf 42 = .ok (.if_icmp .eq 12, 3) := by decide +kernel
theorem dX10_nextOf_45 : decode cX10_nextOf 45 = .ok (.aload_n 0, 1) := by decide +kernel
theorem dX10_nextOf_46 : decode cX10_nextOf 46 = .ok (.iload_n 1, 1) := by decide +kernel
theorem dX10_nextOf_47 : decode cX10_nextOf 47 = .ok (.iload_n 3, 1) := by decide +kernel
theorem dX10_nextOf_48 : decode cX10_nextOf 48 = .ok (.invokevirtual 159, 3) := by decide +kernel
theorem dX10_nextOf_51 : decode cX10_nextOf 51 = .ok (.ifCond .eq 7, 3) := by decide +kernel
theorem dX10_nextOf_54 : decode cX10_nextOf 54 = .ok (.iconst 1, 1) := by decide +kernel
theorem dX10_nextOf_55 : decode cX10_nextOf 55 = .ok (.goto 4, 3) := by decide +kernel
theorem dX10_nextOf_58 : decode cX10_nextOf 58 = .ok (.iconst 0, 1) := by decide +kernel
theorem dX10_nextOf_59 : decode cX10_nextOf 59 = .ok (.istore 4, 2) := by decide +kernel
theorem dX10_nextOf_61 : decode cX10_nextOf 61 = .ok (.iload 4, 2) := by decide +kernel
theorem dX10_nextOf_63 : decode cX10_nextOf 63 = .ok (.ifCond .eq 21, 3) := by decide +kernel
theorem dX10_nextOf_66 : decode cX10_nextOf 66 = .ok (.iload_n 2, 1) := by decide +kernel
theorem dX10_nextOf_67 : decode cX10_nextOf 67 = .ok (.iconst (-1), 1) := by decide +kernel
theorem dX10_nextOf_68 : decode cX10_nextOf 68 = .ok (.if_icmp .eq 12, 3) := by decide +kernel
theorem dX10_nextOf_71 : decode cX10_nextOf 71 = .ok (.aload_n 0, 1) := by decide +kernel
theorem dX10_nextOf_72 : decode cX10_nextOf 72 = .ok (.iload_n 3, 1) := by decide +kernel
theorem dX10_nextOf_73 : decode cX10_nextOf 73 = .ok (.iload_n 2, 1) := by decide +kernel
theorem dX10_nextOf_74 : decode cX10_nextOf 74 = .ok (.invokevirtual 159, 3) := by decide +kernel
theorem dX10_nextOf_77 : decode cX10_nextOf 77 = .ok (.ifCond .eq 7, 3) := by decide +kernel
theorem dX10_nextOf_80 : decode cX10_nextOf 80 = .ok (.iload_n 3, 1) := by decide +kernel
theorem dX10_nextOf_81 : decode cX10_nextOf 81 = .ok (.goto 4, 3) := by decide +kernel
theorem dX10_nextOf_84 : decode cX10_nextOf 84 = .ok (.iload_n 2, 1) := by decide +kernel
theorem dX10_nextOf_85 : decode cX10_nextOf 85 = .ok (.istore_n 2, 1) := by decide +kernel
theorem dX10_nextOf_86 : decode cX10_nextOf 86 = .ok (.iinc 3 1, 3) := by decide +kernel
theorem dX10_nextOf_89 : decode cX10_nextOf 89 = .ok (.goto (-85), 3) := by decide +kernel
theorem dX10_nextOf_92 : decode cX10_nextOf 92 = .ok (.iload_n 2, 1) := by decide +kernel
theorem dX10_nextOf_93 : decode cX10_nextOf 93 = .ok (.ireturn, 1) := by decide +kernel
set_option maxRecDepth 20000 in
theorem ggX10_channelFor_X10_hasGap : GoodIn wsX10_channelFor wsX10_hasGap := goodIn_r _ [7, 2, 8, 9, 10, 11, 12, 13, 14, 15, 16, 17, 18, 19, 20, 21, 22, 23, 24, 25, 26, 27, 28, 29, 30, 31, 32, 33, 34, 35, 36, 37, 38] (by decide +kernel) (by decide +kernel)
set_option maxRecDepth 20000 in
theorem gX10_channelFor_X10_hasGap : GoodIn wsX10_channelFor (wsV RX10 162 RX10 yX10_hasGap wsX10_hasGap) := goodIn_app (goodIn_of _ (by decide +kernel)) ggX10_channelFor_X10_hasGap
theorem dX10_channelFor_0 : decode cX10_channelFor 0 = .ok (.iconst (-1), 1) := by decide +kernel
theorem dX10_channelFor_1 : decode cX10_channelFor 1 = .ok (.istore_n 2, 1) := by decide +kernel
theorem dX10_channelFor_2 : decode cX10_channelFor 2 = .ok (.iconst (-1), 1) := by decide +kernel
theorem dX10_channelFor_3 : decode cX10_channelFor 3 = .ok (.istore_n 3, 1) := by decide +kernel
theorem dX10_channelFor_4 : decode cX10_channelFor 4 = .ok (.bipush 31, 2) := by decide +kernel
theorem dX10_channelFor_6 : decode cX10_channelFor 6 = .ok (.istore 4, 2) := by decide +kernel
theorem dX10_channelFor_8 : decode cX10_channelFor 8 = .ok (.iload 4, 2) := by decide +kernel
theorem dX10_channelFor_10 : decode cX10_channelFor 10 = .ok (.ifCond .lt 94, 3) := by decide +kernel
theorem dX10_channelFor_13 : decode cX10_channelFor 13 = .ok (.aload_n 0, 1) := by decide +kernel
theorem dX10_channelFor_14 : decode cX10_channelFor 14 = .ok (.getfield 52, 3) := by decide +kernel
theorem dX10_channelFor_17 : decode cX10_channelFor 17 = .ok (.iload 4, 2) := by decide +kernel
theorem dX10_channelFor_19 : decode cX10_channelFor 19 = .ok (.baload, 1) := by decide +kernel
theorem dX10_channelFor_20 : decode cX10_channelFor 20 = .ok (.ifCond .ne 31, 3) := by decide +kernel
theorem dX10_channelFor_23 : decode cX10_channelFor 23 = .ok (.aload_n 0, 1) := by decide +kernel
theorem dX10_channelFor_24 : decode cX10_channelFor 24 = .ok (.getfield 87, 3) := by decide +kernel
theorem dX10_channelFor_27 : decode cX10_channelFor 27 = .ok (.iload 4, 2) := by decide +kernel
theorem dX10_channelFor_29 : decode cX10_channelFor 29 = .ok (.iaload, 1) := by decide +kernel
theorem dX10_channelFor_30 : decode cX10_channelFor 30 = .ok (.iconst (-1), 1) := by decide +kernel
theorem dX10_channelFor_31 : decode cX10_channelFor 31 = .ok (.if_icmp .ne 20, 3) := by decide +kernel
theorem dX10_channelFor_34 : decode cX10_channelFor 34 = .ok (.aload_n 0, 1) := by decide +kernel
theorem dX10_channelFor_35 : decode cX10_channelFor 35 = .ok (.iload 4, 2) := by decide +kernel
theorem dX10_channelFor_37 : decode cX10_channelFor 37 = .ok (.bipush 8, 2) := by decide +kernel
theorem dX10_channelFor_39 : decode cX10_channelFor 39 = .ok (.idiv, 1) := by decide +kernel
theorem dX10_channelFor_40 : decode cX10_channelFor 40 = .ok (.iload_n 1, 1) := by decide +kernel
theorem dX10_channelFor_41 : decode cX10_channelFor 41 = .ok (.invokevirtual 162, 3) := by decide +kernel
theorem dX10_channelFor_44 : decode cX10_channelFor 44 = .ok (.ifCond .eq 7, 3) := by decide +kernel
theorem dX10_channelFor_47 : decode cX10_channelFor 47 = .ok (.iconst 1, 1) := by decide +kernel
theorem dX10_channelFor_48 : decode cX10_channelFor 48 = .ok (.goto 4, 3) := by decide +kernel
theorem dX10_channelFor_51 : decode cX10_channelFor 51 = .ok (.iconst 0, 1) := by decide +kernel
theorem dX10_channelFor_52 : decode cX10_channelFor 52 = .ok (.istore 5, 2) := by decide +kernel
theorem dX10_channelFor_54 : decode cX10_channelFor 54 = .ok (.iload 5, 2) := by decide +kernel
theorem dX10_channelFor_56 : decode cX10_channelFor 56 = .ok (.ifCond .eq 18, 3) := by decide +kernel
theorem dX10_channelFor_59 : decode cX10_channelFor 59 = .ok (.iload 4, 2) := by decide +kernel
theorem dX10_channelFor_61 : decode cX10_channelFor 61 = .ok (.bipush 8, 2) := by decide +kernel
theorem dX10_channelFor_63 : decode cX10_channelFor 63 = .ok (.irem, 1) := by decide +kernel
theorem dX10_channelFor_64 : decode cX10_channelFor 64 = .ok (.bipush 6, 2) := by decide +kernel
theorem dX10_channelFor_66 : decode cX10_channelFor 66 = .ok (.if_icmp .ge 8, 3) := by decide +kernel
theorem dX10_channelFor_69 : decode cX10_channelFor 69 = .ok (.iload 4, 2) := by decide +kernel
theorem dX10_channelFor_71 : decode cX10_channelFor 71 = .ok (.goto 4, 3) := by decide +kernel
theorem dX10_channelFor_74 : decode cX10_channelFor 74 = .ok (.iload_n 2, 1) := by decide +kernel
theorem dX10_channelFor_75 : decode cX10_channelFor 75 = .ok (.istore_n 2, 1) := by decide +kernel
theorem dX10_channelFor_76 : decode cX10_channelFor 76 = .ok (.iload 5, 2) := by decide +kernel
theorem dX10_channelFor_78 : decode cX10_channelFor 78 = .ok (.ifCond .eq 18, 3) := by decide +kernel
theorem dX10_channelFor_81 : decode cX10_channelFor 81 = .ok (.iload 4, 2) := by decide +kernel
theorem dX10_channelFor_83 : decode cX10_channelFor 83 = .ok (.bipush 8, 2) := by decide +kernel
theorem dX10_channelFor_85 : decode cX10_channelFor 85 = .ok (.irem, 1) := by decide +kernel
theorem dX10_channelFor_86 : decode cX10_channelFor 86 = .ok (.bipush 6, 2) := by decide +kernel
theorem dX10_channelFor_88 : decode cX10_channelFor 88 = .ok (.if_icmp .lt 8, 3) := by decide +kernel
theorem dX10_channelFor_91 : decode cX10_channelFor 91 = .ok (.iload 4, 2) := by decide +kernel
theorem dX10_channelFor_93 : decode cX10_channelFor 93 = .ok (.goto 4, 3) := by decide +kernel
theorem dX10_channelFor_96 : decode cX10_channelFor 96 = .ok (.iload_n 3, 1) := by decide +kernel
theorem dX10_channelFor_97 : decode cX10_channelFor 97 = .ok (.istore_n 3, 1) := by decide +kernel
theorem dX10_channelFor_98 : decode cX10_channelFor 98 = .ok (.iinc 4 (-1), 3) := by decide +kernel
theorem dX10_channelFor_101 : decode cX10_channelFor 101 = .ok (.goto (-93), 3) := by decide +kernel
theorem dX10_channelFor_104 : decode cX10_channelFor 104 = .ok (.iload_n 2, 1) := by decide +kernel
theorem dX10_channelFor_105 : decode cX10_channelFor 105 = .ok (.iconst (-1), 1) := by decide +kernel
theorem dX10_channelFor_106 : decode cX10_channelFor 106 = .ok (.if_icmp .ne 7, 3) := by decide +kernel
theorem dX10_channelFor_109 : decode cX10_channelFor 109 = .ok (.iload_n 3, 1) := by decide +kernel
theorem dX10_channelFor_110 : decode cX10_channelFor 110 = .ok (.goto 4, 3) := by decide +kernel
theorem dX10_channelFor_113 : decode cX10_channelFor 113 = .ok (.iload_n 2, 1) := by decide +kernel
theorem dX10_channelFor_114 : decode cX10_channelFor 114 = .ok (.ireturn, 1) := by decide +kernel
theorem dX10_hasGap_0 : decode cX10_hasGap 0 = .ok (.iconst 1, 1) := by decide +kernel
theorem dX10_hasGap_1 : decode cX10_hasGap 1 = .ok (.istore_n 3, 1) := by decide +kernel
theorem dX10_hasGap_2 : decode cX10_hasGap 2 = .ok (.bipush 8, 2) := by decide +kernel
theorem dX10_hasGap_4 : decode cX10_hasGap 4 = .ok (.iload_n 1, 1) := by decide +kernel
theorem dX10_hasGap_5 : decode cX10_hasGap 5 = .ok (.imul, 1) := by decide +kernel
theorem dX10_hasGap_6 : decode cX10_hasGap 6 = .ok (.istore 4, 2) := by decide +kernel
theorem dX10_hasGap_8 : decode cX10_hasGap 8 = .ok (.iload 4, 2) := by decide +kernel
theorem dX10_hasGap_10 : decode cX10_hasGap 10 = .ok (.bipush 8, 2) := by decide +kernel
theorem dX10_hasGap_12 : decode cX10_hasGap 12 = .ok (.iload_n 1, 1) := by decide +kernel
theorem dX10_hasGap_13 : decode cX10_hasGap 13 = .ok (.iconst 1, 1) := by decide +kernel
theorem dX10_hasGap_14 : decode cX10_hasGap 14 = .ok (.iadd, 1) := by decide +kernel
theorem dX10_hasGap_15 : decode cX10_hasGap 15 = .ok (.imul, 1) := by decide +kernel
theorem dX10_hasGap_16 : decode cX10_hasGap 16 = .ok (.if_icmp .ge 72, 3) := by decide +kernel
theorem dX10_hasGap_19 : decode cX10_hasGap 19 = .ok (.aload_n 0, 1) := by decide +kernel
theorem dX10_hasGap_20 : decode cX10_hasGap 20 = .ok (.getfield 87, 3) := by decide +kernel
theorem dX10_hasGap_23 : decode cX10_hasGap 23 = .ok (.iload 4, 2) := by decide +kernel
theorem dX10_hasGap_25 : decode cX10_hasGap 25 = .ok (.iaload, 1) := by decide +kernel
theorem dX10_hasGap_26 : decode cX10_hasGap 26 = .ok (.iconst (-1), 1) := by decide +kernel
theorem dX10_hasGap_27 : decode cX10_hasGap 27 = .ok (.if_icmp .ne 10, 3) := by decide +kernel
theorem dX10_hasGap_30 : decode cX10_hasGap 30 = .ok (.aload_n 0, 1) := by decide +kernel
theorem dX10_hasGap_31 : decode cX10_hasGap 31 = .ok (.getfield 60, 3) := by decide +kernel
theorem dX10_hasGap_34 : decode cX10_hasGap 34 = .ok (.goto 17, 3) := by decide +kernel
theorem dX10_hasGap_37 : decode cX10_hasGap 37 = .ok (.iload_n 2, 1) := by decide +kernel
theorem dX10_hasGap_38 : decode cX10_hasGap 38 = .ok (.aload_n 0, 1) := by decide +kernel
theorem dX10_hasGap_39 : decode cX10_hasGap 39 = .ok (.getfield 78, 3) := by decide +kernel
theorem dX10_hasGap_42 : decode cX10_hasGap 42 = .ok (.aload_n 0, 1) := by decide +kernel
theorem dX10_hasGap_43 : decode cX10_hasGap 43 = .ok (.getfield 87, 3) := by decide +kernel
theorem dX10_hasGap_46 : decode cX10_hasGap 46 = .ok (.iload 4, 2) := by decide +kernel
theorem dX10_hasGap_48 : decode cX10_hasGap 48 = .ok (.iaload, 1) := by decide +kernel
theorem dX10_hasGap_49 : decode cX10_hasGap 49 = .ok (.iaload, 1) := by decide +kernel
theorem dX10_hasGap_50 : decode cX10_hasGap 50 = .ok (.isub, 1) := by decide +kernel
theorem dX10_hasGap_51 : decode cX10_hasGap 51 = .ok (.istore 5, 2) := by decide +kernel
theorem dX10_hasGap_53 : decode cX10_hasGap 53 = .ok (.iload_n 3, 1) := by decide +kernel
theorem dX10_hasGap_54 : decode cX10_hasGap 54 = .ok (.ifCond .eq 26, 3) := by decide +kernel
theorem dX10_hasGap_57 : decode cX10_hasGap 57 = .ok (.iload 5, 2) := by decide +kernel
theorem dX10_hasGap_59 : decode cX10_hasGap 59 = .ok (.aload_n 0, 1) := by decide +kernel
theorem dX10_hasGap_60 : decode cX10_hasGap 60 = .ok (.getfield 60, 3) := by decide +kernel
theorem dX10_hasGap_63 : decode cX10_hasGap 63 = .ok (.if_icmp .ge 13, 3) := by decide +kernel
theorem dX10_hasGap_66 : decode cX10_hasGap 66 = .ok (.iload 5, 2) := by decide +kernel
theorem dX10_hasGap_68 : decode cX10_hasGap 68 = .ok (.ineg, 1) := by decide +kernel
theorem dX10_hasGap_69 : decode cX10_hasGap 69 = .ok (.aload_n 0, 1) := by decide +kernel
theorem dX10_hasGap_70 : decode cX10_hasGap 70 = .ok (.getfield 60, 3) := by decide +kernel
theorem dX10_hasGap_73 : decode cX10_hasGap 73 = .ok (.if_icmp .lt 7, 3) := by decide +kernel
theorem dX10_hasGap_76 : decode cX10_hasGap 76 = .ok (.iconst 1, 1) := by decide +kernel
theorem dX10_hasGap_77 : decode cX10_hasGap 77 = .ok (.goto 4, 3) := by decide +kernel
theorem dX10_hasGap_80 : decode cX10_hasGap 80 = .ok (.iconst 0, 1) := by decide +kernel
theorem dX10_hasGap_81 : decode cX10_hasGap 81 = .ok (.istore_n 3, 1) := by decide +kernel
theorem dX10_hasGap_82 : decode cX10_hasGap 82 = .ok (.iinc 4 1, 3) := by decide +kernel
theorem dX10_hasGap_85 : decode cX10_hasGap 85 = .ok (.goto (-77), 3) := by decide +kernel
theorem dX10_hasGap_88 : decode cX10_hasGap 88 = .ok (.iload_n 3, 1) := by decide +kernel
theorem dX10_hasGap_89 : decode cX10_hasGap 89 = .ok (.ireturn, 1) := by decide +kernel
set_option maxRecDepth 20000 in
theorem ggX10_asks_X10_lays : GoodIn wsX10_asks wsX10_lays := goodIn_r _ [5, 6, 7, 8, 9, 10, 11, 12, 13, 14, 15, 16, 17, 18, 19, 20, 4, 21, 22, 23, 24, 25, 26, 27, 28, 29, 30, 31, 32, 33, 34, 35, 36, 37, 38, 39, 40, 41, 42, 43, 44, 45, 46, 47, 48, 49, 50, 51, 52, 53, 54, 55, 56, 57, 58, 59, 60, 61, 62, 63, 64, 65, 66, 67, 68, 69, 79, 80, 81, 82, 83, 84, 85, 86, 87, 88, 89, 90, 91, 92, 93, 94, 95, 96, 97, 98, 99, 100, 101, 102, 103, 104, 105, 106, 107] (by decide +kernel) (by decide +kernel)
set_option maxRecDepth 20000 in
theorem gX10_asks_X10_lays : GoodIn wsX10_asks (wsV RX10 165 RX10 yX10_lays wsX10_lays) := goodIn_app (goodIn_of _ (by decide +kernel)) ggX10_asks_X10_lays
set_option maxRecDepth 20000 in
theorem ggX10_asks_X10_isCue : GoodIn wsX10_asks wsX10_isCue := goodIn_r _ [73, 6, 8, 41, 42, 4, 43, 79, 80, 81, 82, 83, 84, 85, 86, 87, 88, 89, 90, 91, 92, 93, 94, 95, 96, 97, 98, 99, 100, 101, 102, 103, 104, 105, 106, 107] (by decide +kernel) (by decide +kernel)
set_option maxRecDepth 20000 in
theorem gX10_asks_X10_isCue : GoodIn wsX10_asks (wsV RX10 127 RX10 yX10_isCue wsX10_isCue) := goodIn_app (goodIn_of _ (by decide +kernel)) ggX10_asks_X10_isCue
set_option maxRecDepth 20000 in
theorem ggX10_asks_X10_goes : GoodIn wsX10_asks wsX10_goes := goodIn_r _ [77, 78, 79, 80, 81, 82, 83, 84, 85, 86, 87, 88, 89, 90, 91, 92, 93, 94, 95, 96, 97, 98, 99, 100, 101, 102, 103, 104, 105, 106, 107] (by decide +kernel) (by decide +kernel)
set_option maxRecDepth 20000 in
theorem gX10_asks_X10_goes : GoodIn wsX10_asks (wsV RX10 108 RX10 yX10_goes wsX10_goes) := goodIn_app (goodIn_of _ (by decide +kernel)) ggX10_asks_X10_goes
theorem dX10_asks_0 : decode cX10_asks 0 = .ok (.aload_n 0, 1) := by decide +kernel
theorem dX10_asks_1 : decode cX10_asks 1 = .ok (.invokevirtual 165, 3) := by decide +kernel
theorem dX10_asks_4 : decode cX10_asks 4 = .ok (.aload_n 0, 1) := by decide +kernel
theorem dX10_asks_5 : decode cX10_asks 5 = .ok (.aload_n 0, 1) := by decide +kernel
theorem dX10_asks_6 : decode cX10_asks 6 = .ok (.iload_n 1, 1) := by decide +kernel
theorem dX10_asks_7 : decode cX10_asks 7 = .ok (.invokevirtual 127, 3) := by decide +kernel
theorem dX10_asks_10 : decode cX10_asks 10 = .ok (.iconst 1, 1) := by decide +kernel
theorem dX10_asks_11 : decode cX10_asks 11 = .ok (.invokevirtual 108, 3) := by decide +kernel
theorem dX10_asks_14 : decode cX10_asks 14 = .ok (.ireturn, 1) := by decide +kernel
set_option maxRecDepth 20000 in
theorem ggX10_becomes_X10_asks : GoodIn wsX10_becomes wsX10_asks := goodIn_r _ [6, 7, 8, 9, 5, 10, 11, 1, 12, 13, 14, 15, 16, 17, 18, 19, 20, 21, 22, 23, 24, 25, 26, 27, 28, 29, 30, 31, 32, 33, 34, 35, 36, 37, 38, 39, 40, 41, 42, 43, 44, 45, 46, 47, 48, 49, 50, 51, 52, 53, 54, 55, 56, 57, 58, 59, 60, 61, 62, 63, 64, 65, 66, 67, 68, 69, 70, 71, 72, 73, 74, 75, 76, 77, 78, 79, 80, 81, 82, 83, 84, 85, 86, 87, 88, 89, 90, 91, 92, 93, 94, 95, 96, 97, 98, 99, 100, 101, 102, 103, 104, 105, 106, 107, 108, 109, 110, 111] (by decide +kernel) (by decide +kernel)
set_option maxRecDepth 20000 in
theorem gX10_becomes_X10_asks : GoodIn wsX10_becomes (wsV RX10 168 RX10 yX10_asks wsX10_asks) := goodIn_app (goodIn_of _ (by decide +kernel)) ggX10_becomes_X10_asks
theorem dX10_becomes_0 : decode cX10_becomes 0 = .ok (.aload_n 0, 1) := by decide +kernel
theorem dX10_becomes_1 : decode cX10_becomes 1 = .ok (.iload_n 1, 1) := by decide +kernel
theorem dX10_becomes_2 : decode cX10_becomes 2 = .ok (.invokevirtual 168, 3) := by decide +kernel
theorem dX10_becomes_5 : decode cX10_becomes 5 = .ok (.ifCond .eq 12, 3) := by decide +kernel
theorem dX10_becomes_8 : decode cX10_becomes 8 = .ok (.aload_n 0, 1) := by decide +kernel
theorem dX10_becomes_9 : decode cX10_becomes 9 = .ok (.getfield 75, 3) := by decide +kernel
theorem dX10_becomes_12 : decode cX10_becomes 12 = .ok (.iload_n 1, 1) := by decide +kernel
theorem dX10_becomes_13 : decode cX10_becomes 13 = .ok (.iaload, 1) := by decide +kernel
theorem dX10_becomes_14 : decode cX10_becomes 14 = .ok (.goto 4, 3) := by decide +kernel
theorem dX10_becomes_17 : decode cX10_becomes 17 = .ok (.iconst 0, 1) := by decide +kernel
theorem dX10_becomes_18 : decode cX10_becomes 18 = .ok (.ireturn, 1) := by decide +kernel
set_option maxRecDepth 20000 in
theorem ggX10_bursts_X10_asks : GoodIn wsX10_bursts wsX10_asks := goodIn_r _ [8, 9, 10, 11, 7, 12, 13, 14, 15, 16, 17, 18, 1, 19, 20, 2, 3, 21, 22, 23, 24, 25, 26, 27, 28, 29, 30, 31, 32, 33, 34, 35, 36, 37, 38, 39, 40, 41, 42, 43, 44, 45, 46, 47, 48, 49, 50, 51, 52, 53, 54, 55, 56, 57, 58, 59, 60, 61, 62, 63, 64, 65, 66, 67, 68, 69, 70, 71, 72, 73, 74, 75, 76, 77, 78, 79, 80, 81, 82, 83, 84, 85, 86, 87, 88, 89, 90, 91, 92, 93, 94, 95, 96, 97, 98, 99, 100, 101, 102, 103, 104, 105, 106, 107, 108, 109, 110, 111] (by decide +kernel) (by decide +kernel)
set_option maxRecDepth 20000 in
theorem gX10_bursts_X10_asks : GoodIn wsX10_bursts (wsV RX10 168 RX10 yX10_asks wsX10_asks) := goodIn_app (goodIn_of _ (by decide +kernel)) ggX10_bursts_X10_asks
theorem dX10_bursts_0 : decode cX10_bursts 0 = .ok (.aload_n 0, 1) := by decide +kernel
theorem dX10_bursts_1 : decode cX10_bursts 1 = .ok (.iload_n 1, 1) := by decide +kernel
theorem dX10_bursts_2 : decode cX10_bursts 2 = .ok (.invokevirtual 168, 3) := by decide +kernel
theorem dX10_bursts_5 : decode cX10_bursts 5 = .ok (.ifCond .eq 24, 3) := by decide +kernel
theorem dX10_bursts_8 : decode cX10_bursts 8 = .ok (.aload_n 0, 1) := by decide +kernel
theorem dX10_bursts_9 : decode cX10_bursts 9 = .ok (.getfield 78, 3) := by decide +kernel
theorem dX10_bursts_12 : decode cX10_bursts 12 = .ok (.iload_n 1, 1) := by decide +kernel
theorem dX10_bursts_13 : decode cX10_bursts 13 = .ok (.iaload, 1) := by decide +kernel
theorem dX10_bursts_14 : decode cX10_bursts 14 = .ok (.aload_n 0, 1) := by decide +kernel
theorem dX10_bursts_15 : decode cX10_bursts 15 = .ok (.getfield 22, 3) := by decide +kernel
theorem dX10_bursts_18 : decode cX10_bursts 18 = .ok (.aload_n 0, 1) := by decide +kernel
theorem dX10_bursts_19 : decode cX10_bursts 19 = .ok (.getfield 66, 3) := by decide +kernel
theorem dX10_bursts_22 : decode cX10_bursts 22 = .ok (.iload_n 1, 1) := by decide +kernel
theorem dX10_bursts_23 : decode cX10_bursts 23 = .ok (.iaload, 1) := by decide +kernel
theorem dX10_bursts_24 : decode cX10_bursts 24 = .ok (.iaload, 1) := by decide +kernel
theorem dX10_bursts_25 : decode cX10_bursts 25 = .ok (.iadd, 1) := by decide +kernel
theorem dX10_bursts_26 : decode cX10_bursts 26 = .ok (.goto 4, 3) := by decide +kernel
theorem dX10_bursts_29 : decode cX10_bursts 29 = .ok (.iconst 0, 1) := by decide +kernel
theorem dX10_bursts_30 : decode cX10_bursts 30 = .ok (.ireturn, 1) := by decide +kernel
set_option maxRecDepth 20000 in
theorem ggX10_fires_X10_asks : GoodIn wsX10_fires wsX10_asks := goodIn_r _ [6, 7, 8, 9, 5, 10, 11, 12, 13, 14, 15, 16, 1, 17, 18, 19, 20, 21, 22, 23, 24, 25, 26, 27, 28, 29, 30, 31, 32, 33, 34, 35, 36, 37, 38, 39, 40, 41, 42, 43, 44, 45, 46, 47, 48, 49, 50, 51, 52, 53, 54, 55, 56, 57, 58, 59, 60, 61, 62, 63, 64, 65, 66, 67, 68, 69, 70, 71, 72, 73, 74, 75, 76, 77, 78, 79, 80, 81, 82, 83, 84, 85, 86, 87, 88, 89, 90, 91, 92, 93, 94, 95, 96, 97, 98, 99, 100, 101, 102, 103, 104, 105, 106, 107, 108, 109, 110, 111] (by decide +kernel) (by decide +kernel)
set_option maxRecDepth 20000 in
theorem gX10_fires_X10_asks : GoodIn wsX10_fires (wsV RX10 168 RX10 yX10_asks wsX10_asks) := goodIn_app (goodIn_of _ (by decide +kernel)) ggX10_fires_X10_asks
theorem dX10_fires_0 : decode cX10_fires 0 = .ok (.aload_n 0, 1) := by decide +kernel
theorem dX10_fires_1 : decode cX10_fires 1 = .ok (.iload_n 1, 1) := by decide +kernel
theorem dX10_fires_2 : decode cX10_fires 2 = .ok (.invokevirtual 168, 3) := by decide +kernel
theorem dX10_fires_5 : decode cX10_fires 5 = .ok (.ifCond .eq 12, 3) := by decide +kernel
theorem dX10_fires_8 : decode cX10_fires 8 = .ok (.aload_n 0, 1) := by decide +kernel
theorem dX10_fires_9 : decode cX10_fires 9 = .ok (.getfield 78, 3) := by decide +kernel
theorem dX10_fires_12 : decode cX10_fires 12 = .ok (.iload_n 1, 1) := by decide +kernel
theorem dX10_fires_13 : decode cX10_fires 13 = .ok (.iaload, 1) := by decide +kernel
theorem dX10_fires_14 : decode cX10_fires 14 = .ok (.goto 4, 3) := by decide +kernel
theorem dX10_fires_17 : decode cX10_fires 17 = .ok (.iconst 0, 1) := by decide +kernel
theorem dX10_fires_18 : decode cX10_fires 18 = .ok (.ireturn, 1) := by decide +kernel
set_option maxRecDepth 20000 in
theorem ggX10_falls_X10_isCue : GoodIn wsX10_falls wsX10_isCue := goodIn_r _ [5, 6, 7, 8, 9, 4, 10, 30, 31, 32, 33, 34, 35, 36, 37, 38, 39, 40, 41, 42, 43, 44, 45, 46, 47, 48, 49, 50, 51, 52, 53, 54, 55, 56, 57, 58] (by decide +kernel) (by decide +kernel)
set_option maxRecDepth 20000 in
theorem gX10_falls_X10_isCue : GoodIn wsX10_falls (wsV RX10 127 RX10 yX10_isCue wsX10_isCue) := goodIn_app (goodIn_of _ (by decide +kernel)) ggX10_falls_X10_isCue
set_option maxRecDepth 20000 in
theorem ggX10_falls_X10_in : GoodIn wsX10_falls wsX10_in := goodIn_r _ [10] (by decide +kernel) (by decide +kernel)
set_option maxRecDepth 20000 in
theorem gX10_falls_X10_in : GoodIn wsX10_falls (va_wsS RX10 97 yX10_in wsX10_in) := goodIn_app (goodIn_of _ (by decide +kernel)) ggX10_falls_X10_in
set_option maxRecDepth 20000 in
theorem ggX10_falls_X10_goes : GoodIn wsX10_falls wsX10_goes := goodIn_r _ [14, 15, 30, 31, 32, 33, 34, 35, 36, 37, 38, 39, 40, 41, 42, 43, 44, 45, 46, 47, 48, 49, 50, 51, 52, 53, 54, 55, 56, 57, 58] (by decide +kernel) (by decide +kernel)
set_option maxRecDepth 20000 in
theorem gX10_falls_X10_goes : GoodIn wsX10_falls (wsV RX10 108 RX10 yX10_goes wsX10_goes) := goodIn_app (goodIn_of _ (by decide +kernel)) ggX10_falls_X10_goes
set_option maxRecDepth 20000 in
theorem ggX10_falls_X10_distance : GoodIn wsX10_falls wsX10_distance := goodIn_r _ [19, 20, 21, 22, 23, 24, 25, 26, 30, 31, 32, 33, 34, 35, 36, 37, 38, 39, 40, 41, 42, 43, 44, 45, 46, 47, 48, 49, 50, 51, 52, 53, 54, 55, 56, 57, 58] (by decide +kernel) (by decide +kernel)
set_option maxRecDepth 20000 in
theorem gX10_falls_X10_distance : GoodIn wsX10_falls (wsV RX10 134 RX10 yX10_distance wsX10_distance) := goodIn_app (goodIn_of _ (by decide +kernel)) ggX10_falls_X10_distance
set_option maxRecDepth 20000 in
theorem ggX10_falls_X10_down : GoodIn wsX10_falls wsX10_down := goodIn_r _ [29] (by decide +kernel) (by decide +kernel)
set_option maxRecDepth 20000 in
theorem gX10_falls_X10_down : GoodIn wsX10_falls (va_wsS RX10 138 yX10_down wsX10_down) := goodIn_app (goodIn_of _ (by decide +kernel)) ggX10_falls_X10_down
theorem dX10_falls_0 : decode cX10_falls 0 = .ok (.aload_n 0, 1) := by decide +kernel
theorem dX10_falls_1 : decode cX10_falls 1 = .ok (.aload_n 0, 1) := by decide +kernel
theorem dX10_falls_2 : decode cX10_falls 2 = .ok (.iload_n 1, 1) := by decide +kernel
theorem dX10_falls_3 : decode cX10_falls 3 = .ok (.invokevirtual 127, 3) := by decide +kernel
theorem dX10_falls_6 : decode cX10_falls 6 = .ok (.iload_n 2, 1) := by decide +kernel
theorem dX10_falls_7 : decode cX10_falls 7 = .ok (.iconst 0, 1) := by decide +kernel
theorem dX10_falls_8 : decode cX10_falls 8 = .ok (.iconst 3, 1) := by decide +kernel
theorem dX10_falls_9 : decode cX10_falls 9 = .ok (.invokestatic 97, 3) := by decide +kernel
theorem dX10_falls_12 : decode cX10_falls 12 = .ok (.invokevirtual 108, 3) := by decide +kernel
theorem dX10_falls_15 : decode cX10_falls 15 = .ok (.ifCond .ne 5, 3) := by decide +kernel
theorem dX10_falls_18 : decode cX10_falls 18 = .ok (.iconst 0, 1) := by decide +kernel
theorem dX10_falls_19 : decode cX10_falls 19 = .ok (.ireturn, 1) := by decide +kernel
theorem dX10_falls_20 : decode cX10_falls 20 = .ok (.aload_n 0, 1) := by decide +kernel
theorem dX10_falls_21 : decode cX10_falls 21 = .ok (.iload_n 1, 1) := by decide +kernel
theorem dX10_falls_22 : decode cX10_falls 22 = .ok (.iload_n 2, 1) := by decide +kernel
theorem dX10_falls_23 : decode cX10_falls 23 = .ok (.iconst 2, 1) := by decide +kernel
theorem dX10_falls_24 : decode cX10_falls 24 = .ok (.irem, 1) := by decide +kernel
theorem dX10_falls_25 : decode cX10_falls 25 = .ok (.iconst 1, 1) := by decide +kernel
theorem dX10_falls_26 : decode cX10_falls 26 = .ok (.if_icmp .ne 7, 3) := by decide +kernel
theorem dX10_falls_29 : decode cX10_falls 29 = .ok (.iconst 1, 1) := by decide +kernel
theorem dX10_falls_30 : decode cX10_falls 30 = .ok (.goto 4, 3) := by decide +kernel
theorem dX10_falls_33 : decode cX10_falls 33 = .ok (.iconst 0, 1) := by decide +kernel
theorem dX10_falls_34 : decode cX10_falls 34 = .ok (.iconst 1, 1) := by decide +kernel
theorem dX10_falls_35 : decode cX10_falls 35 = .ok (.invokevirtual 134, 3) := by decide +kernel
theorem dX10_falls_38 : decode cX10_falls 38 = .ok (.istore_n 3, 1) := by decide +kernel
theorem dX10_falls_39 : decode cX10_falls 39 = .ok (.iload_n 2, 1) := by decide +kernel
theorem dX10_falls_40 : decode cX10_falls 40 = .ok (.iconst 2, 1) := by decide +kernel
theorem dX10_falls_41 : decode cX10_falls 41 = .ok (.if_icmp .ge 7, 3) := by decide +kernel
theorem dX10_falls_44 : decode cX10_falls 44 = .ok (.iload_n 3, 1) := by decide +kernel
theorem dX10_falls_45 : decode cX10_falls 45 = .ok (.goto 7, 3) := by decide +kernel
theorem dX10_falls_48 : decode cX10_falls 48 = .ok (.iload_n 3, 1) := by decide +kernel
theorem dX10_falls_49 : decode cX10_falls 49 = .ok (.invokestatic 138, 3) := by decide +kernel
theorem dX10_falls_52 : decode cX10_falls 52 = .ok (.ireturn, 1) := by decide +kernel
set_option maxRecDepth 20000 in
theorem ggX10_fallsBySteps_X10_falls : GoodIn wsX10_fallsBySteps wsX10_falls := goodIn_r _ [5, 6, 7, 8, 4, 9, 10, 11, 12, 13, 14, 15, 16, 17, 18, 19, 20, 21, 22, 23, 24, 25, 26, 27, 28, 29, 30, 31, 32, 33, 34, 35, 36, 37, 38, 39, 40, 41, 42, 43, 44, 45, 46, 47, 48, 49, 50, 51, 52, 53, 54, 55, 56, 57, 58, 59, 60, 61, 62] (by decide +kernel) (by decide +kernel)
set_option maxRecDepth 20000 in
theorem gX10_fallsBySteps_X10_falls : GoodIn wsX10_fallsBySteps (wsV RX10 171 RX10 yX10_falls wsX10_falls) := goodIn_app (goodIn_of _ (by decide +kernel)) ggX10_fallsBySteps_X10_falls
theorem dX10_fallsBySteps_0 : decode cX10_fallsBySteps 0 = .ok (.aload_n 0, 1) := by decide +kernel
theorem dX10_fallsBySteps_1 : decode cX10_fallsBySteps 1 = .ok (.iload_n 1, 1) := by decide +kernel
theorem dX10_fallsBySteps_2 : decode cX10_fallsBySteps 2 = .ok (.iload_n 2, 1) := by decide +kernel
theorem dX10_fallsBySteps_3 : decode cX10_fallsBySteps 3 = .ok (.invokevirtual 171, 3) := by decide +kernel
theorem dX10_fallsBySteps_6 : decode cX10_fallsBySteps 6 = .ok (.ireturn, 1) := by decide +kernel
set_option maxRecDepth 20000 in
theorem ggX10_burstAt_X10_isCue : GoodIn wsX10_burstAt wsX10_isCue := goodIn_r _ [7, 8, 9, 10, 11, 6, 12, 28, 29, 30, 31, 32, 33, 34, 35, 36, 37, 38, 39, 40, 41, 42, 43, 44, 45, 46, 47, 48, 49, 50, 51, 52, 53, 54, 55, 56] (by decide +kernel) (by decide +kernel)
set_option maxRecDepth 20000 in
theorem gX10_burstAt_X10_isCue : GoodIn wsX10_burstAt (wsV RX10 127 RX10 yX10_isCue wsX10_isCue) := goodIn_app (goodIn_of _ (by decide +kernel)) ggX10_burstAt_X10_isCue
set_option maxRecDepth 20000 in
theorem ggX10_burstAt_X10_in : GoodIn wsX10_burstAt wsX10_in := goodIn_r _ [12] (by decide +kernel) (by decide +kernel)
set_option maxRecDepth 20000 in
theorem gX10_burstAt_X10_in : GoodIn wsX10_burstAt (va_wsS RX10 97 yX10_in wsX10_in) := goodIn_app (goodIn_of _ (by decide +kernel)) ggX10_burstAt_X10_in
set_option maxRecDepth 20000 in
theorem ggX10_burstAt_X10_goes : GoodIn wsX10_burstAt wsX10_goes := goodIn_r _ [16, 17, 28, 29, 30, 31, 32, 33, 34, 35, 36, 37, 38, 39, 40, 41, 42, 43, 44, 45, 46, 47, 48, 49, 50, 51, 52, 53, 54, 55, 56] (by decide +kernel) (by decide +kernel)
set_option maxRecDepth 20000 in
theorem gX10_burstAt_X10_goes : GoodIn wsX10_burstAt (wsV RX10 108 RX10 yX10_goes wsX10_goes) := goodIn_app (goodIn_of _ (by decide +kernel)) ggX10_burstAt_X10_goes
set_option maxRecDepth 20000 in
theorem ggX10_burstAt_X10_distance : GoodIn wsX10_burstAt wsX10_distance := goodIn_r _ [21, 22, 23, 2, 24, 25, 26, 27, 28, 29, 30, 31, 32, 33, 34, 35, 36, 37, 38, 39, 40, 41, 42, 43, 44, 45, 46, 47, 48, 49, 50, 51, 52, 53, 54, 55, 56] (by decide +kernel) (by decide +kernel)
set_option maxRecDepth 20000 in
theorem gX10_burstAt_X10_distance : GoodIn wsX10_burstAt (wsV RX10 134 RX10 yX10_distance wsX10_distance) := goodIn_app (goodIn_of _ (by decide +kernel)) ggX10_burstAt_X10_distance
theorem dX10_burstAt_0 : decode cX10_burstAt 0 = .ok (.aload_n 0, 1) := by decide +kernel
theorem dX10_burstAt_1 : decode cX10_burstAt 1 = .ok (.aload_n 0, 1) := by decide +kernel
theorem dX10_burstAt_2 : decode cX10_burstAt 2 = .ok (.iload_n 1, 1) := by decide +kernel
theorem dX10_burstAt_3 : decode cX10_burstAt 3 = .ok (.invokevirtual 127, 3) := by decide +kernel
theorem dX10_burstAt_6 : decode cX10_burstAt 6 = .ok (.iload_n 2, 1) := by decide +kernel
theorem dX10_burstAt_7 : decode cX10_burstAt 7 = .ok (.iconst 0, 1) := by decide +kernel
theorem dX10_burstAt_8 : decode cX10_burstAt 8 = .ok (.iconst 2, 1) := by decide +kernel
theorem dX10_burstAt_9 : decode cX10_burstAt 9 = .ok (.invokestatic 97, 3) := by decide +kernel
theorem dX10_burstAt_12 : decode cX10_burstAt 12 = .ok (.invokevirtual 108, 3) := by decide +kernel
theorem dX10_burstAt_15 : decode cX10_burstAt 15 = .ok (.ifCond .ne 5, 3) := by decide +kernel
theorem dX10_burstAt_18 : decode cX10_burstAt 18 = .ok (.iconst 0, 1) := by decide +kernel
theorem dX10_burstAt_19 : decode cX10_burstAt 19 = .ok (.ireturn, 1) := by decide +kernel
theorem dX10_burstAt_20 : decode cX10_burstAt 20 = .ok (.iload_n 2, 1) := by decide +kernel
theorem dX10_burstAt_21 : decode cX10_burstAt 21 = .ok (.iconst 2, 1) := by decide +kernel
theorem dX10_burstAt_22 : decode cX10_burstAt 22 = .ok (.if_icmp .ne 17, 3) := by decide +kernel
theorem dX10_burstAt_25 : decode cX10_burstAt 25 = .ok (.aload_n 0, 1) := by decide +kernel
theorem dX10_burstAt_26 : decode cX10_burstAt 26 = .ok (.getfield 28, 3) := by decide +kernel
theorem dX10_burstAt_29 : decode cX10_burstAt 29 = .ok (.aload_n 0, 1) := by decide +kernel
theorem dX10_burstAt_30 : decode cX10_burstAt 30 = .ok (.getfield 66, 3) := by decide +kernel
theorem dX10_burstAt_33 : decode cX10_burstAt 33 = .ok (.iload_n 1, 1) := by decide +kernel
theorem dX10_burstAt_34 : decode cX10_burstAt 34 = .ok (.iaload, 1) := by decide +kernel
theorem dX10_burstAt_35 : decode cX10_burstAt 35 = .ok (.iaload, 1) := by decide +kernel
theorem dX10_burstAt_36 : decode cX10_burstAt 36 = .ok (.goto 19, 3) := by decide +kernel
theorem dX10_burstAt_39 : decode cX10_burstAt 39 = .ok (.aload_n 0, 1) := by decide +kernel
theorem dX10_burstAt_40 : decode cX10_burstAt 40 = .ok (.iload_n 1, 1) := by decide +kernel
theorem dX10_burstAt_41 : decode cX10_burstAt 41 = .ok (.iload_n 2, 1) := by decide +kernel
theorem dX10_burstAt_42 : decode cX10_burstAt 42 = .ok (.iconst 1, 1) := by decide +kernel
theorem dX10_burstAt_43 : decode cX10_burstAt 43 = .ok (.if_icmp .ne 7, 3) := by decide +kernel
theorem dX10_burstAt_46 : decode cX10_burstAt 46 = .ok (.iconst 1, 1) := by decide +kernel
theorem dX10_burstAt_47 : decode cX10_burstAt 47 = .ok (.goto 4, 3) := by decide +kernel
theorem dX10_burstAt_50 : decode cX10_burstAt 50 = .ok (.iconst 0, 1) := by decide +kernel
theorem dX10_burstAt_51 : decode cX10_burstAt 51 = .ok (.iconst 0, 1) := by decide +kernel
theorem dX10_burstAt_52 : decode cX10_burstAt 52 = .ok (.invokevirtual 134, 3) := by decide +kernel
theorem dX10_burstAt_55 : decode cX10_burstAt 55 = .ok (.ireturn, 1) := by decide +kernel
set_option maxRecDepth 20000 in
theorem ggX10_danger_X10_isCue : GoodIn wsX10_danger wsX10_isCue := goodIn_r _ [5, 6, 7, 8, 9, 4, 10, 35, 36, 37, 38, 39, 40, 41, 42, 43, 44, 45, 46, 47, 48, 49, 50, 51, 52, 53, 54, 55, 56, 57, 58, 59, 60, 61, 62, 63] (by decide +kernel) (by decide +kernel)
set_option maxRecDepth 20000 in
theorem gX10_danger_X10_isCue : GoodIn wsX10_danger (wsV RX10 127 RX10 yX10_isCue wsX10_isCue) := goodIn_app (goodIn_of _ (by decide +kernel)) ggX10_danger_X10_isCue
set_option maxRecDepth 20000 in
theorem ggX10_danger_X10_goes : GoodIn wsX10_danger wsX10_goes := goodIn_r _ [14, 15, 35, 36, 37, 38, 39, 40, 41, 42, 43, 44, 45, 46, 47, 48, 49, 50, 51, 52, 53, 54, 55, 56, 57, 58, 59, 60, 61, 62, 63] (by decide +kernel) (by decide +kernel)
set_option maxRecDepth 20000 in
theorem gX10_danger_X10_goes : GoodIn wsX10_danger (wsV RX10 108 RX10 yX10_goes wsX10_goes) := goodIn_app (goodIn_of _ (by decide +kernel)) ggX10_danger_X10_goes
set_option maxRecDepth 20000 in
theorem ggX10_danger_X10_isInDanger : GoodIn wsX10_danger wsX10_isInDanger := goodIn_r _ [19, 20, 21, 22, 23, 24, 4, 25, 26, 27, 28, 29, 30, 31, 32, 33, 34, 8, 9, 10, 35, 36, 37, 38, 39, 40, 41, 42, 43, 44, 45, 46, 47, 48, 49, 50, 51, 52, 53, 54, 55, 56, 57, 58, 59, 60, 61, 62, 63] (by decide +kernel) (by decide +kernel)
set_option maxRecDepth 20000 in
theorem gX10_danger_X10_isInDanger : GoodIn wsX10_danger (wsV RX10 141 RX10 yX10_isInDanger wsX10_isInDanger) := goodIn_app (goodIn_of _ (by decide +kernel)) ggX10_danger_X10_isInDanger
theorem dX10_danger_0 : decode cX10_danger 0 = .ok (.lconst 0, 1) := by decide +kernel
theorem dX10_danger_1 : decode cX10_danger 1 = .ok (.lstore_n 2, 1) := by decide +kernel
theorem dX10_danger_2 : decode cX10_danger 2 = .ok (.aload_n 0, 1) := by decide +kernel
theorem dX10_danger_3 : decode cX10_danger 3 = .ok (.aload_n 0, 1) := by decide +kernel
theorem dX10_danger_4 : decode cX10_danger 4 = .ok (.iload_n 1, 1) := by decide +kernel
theorem dX10_danger_5 : decode cX10_danger 5 = .ok (.invokevirtual 127, 3) := by decide +kernel
theorem dX10_danger_8 : decode cX10_danger 8 = .ok (.iconst 1, 1) := by decide +kernel
theorem dX10_danger_9 : decode cX10_danger 9 = .ok (.invokevirtual 108, 3) := by decide +kernel
theorem dX10_danger_12 : decode cX10_danger 12 = .ok (.istore 4, 2) := by decide +kernel
theorem dX10_danger_14 : decode cX10_danger 14 = .ok (.iconst 0, 1) := by decide +kernel
theorem dX10_danger_15 : decode cX10_danger 15 = .ok (.istore 5, 2) := by decide +kernel
theorem dX10_danger_17 : decode cX10_danger 17 = .ok (.iload 5, 2) := by decide +kernel
theorem dX10_danger_19 : decode cX10_danger 19 = .ok (.bipush 64, 2) := by decide +kernel
theorem dX10_danger_21 : decode cX10_danger 21 = .ok (.if_icmp .ge 35, 3) := by decide +kernel
theorem dX10_danger_24 : decode cX10_danger 24 = .ok (.iload 4, 2) := by decide +kernel
theorem dX10_danger_26 : decode cX10_danger 26 = .ok (.ifCond .eq 30, 3) := by decide +kernel
theorem dX10_danger_29 : decode cX10_danger 29 = .ok (.lload_n 2, 1) := by decide +kernel
theorem dX10_danger_30 : decode cX10_danger 30 = .ok (.aload_n 0, 1) := by decide +kernel
theorem dX10_danger_31 : decode cX10_danger 31 = .ok (.iload_n 1, 1) := by decide +kernel
theorem dX10_danger_32 : decode cX10_danger 32 = .ok (.iload 5, 2) := by decide +kernel
theorem dX10_danger_34 : decode cX10_danger 34 = .ok (.invokevirtual 141, 3) := by decide +kernel
theorem dX10_danger_37 : decode cX10_danger 37 = .ok (.ifCond .eq 10, 3) := by decide +kernel
theorem dX10_danger_40 : decode cX10_danger 40 = .ok (.lconst 1, 1) := by decide +kernel
theorem dX10_danger_41 : decode cX10_danger 41 = .ok (.iload 5, 2) := by decide +kernel
theorem dX10_danger_43 : decode cX10_danger 43 = .ok (.lshl, 1) := by decide +kernel
theorem dX10_danger_44 : decode cX10_danger 44 = .ok (.goto 4, 3) := by decide +kernel
theorem dX10_danger_47 : decode cX10_danger 47 = .ok (.lconst 0, 1) := by decide +kernel
theorem dX10_danger_48 : decode cX10_danger 48 = .ok (.lor, 1) := by decide +kernel
theorem dX10_danger_49 : decode cX10_danger 49 = .ok (.lstore_n 2, 1) := by decide +kernel
theorem dX10_danger_50 : decode cX10_danger 50 = .ok (.iinc 5 1, 3) := by decide +kernel
theorem dX10_danger_53 : decode cX10_danger 53 = .ok (.goto (-36), 3) := by decide +kernel
theorem dX10_danger_56 : decode cX10_danger 56 = .ok (.lload_n 2, 1) := by decide +kernel
theorem dX10_danger_57 : decode cX10_danger 57 = .ok (.lreturn, 1) := by decide +kernel
set_option maxRecDepth 20000 in
theorem ggX10_cues_X10_there : GoodIn wsX10_cues wsX10_there := goodIn_r _ [5, 6, 7, 13, 14, 15, 16, 17, 18, 19, 20, 21, 22, 23, 24, 25, 26, 27, 28, 29, 30, 31, 32, 33, 34, 35, 36, 37, 38, 39, 40, 41] (by decide +kernel) (by decide +kernel)
set_option maxRecDepth 20000 in
theorem gX10_cues_X10_there : GoodIn wsX10_cues (wsV RX10 130 RX10 yX10_there wsX10_there) := goodIn_app (goodIn_of _ (by decide +kernel)) ggX10_cues_X10_there
set_option maxRecDepth 20000 in
theorem ggX10_cues_X10_told : GoodIn wsX10_cues wsX10_told := goodIn_r _ [11, 12, 13, 14, 15, 16, 17, 18, 19, 20, 21, 22, 23, 24, 25, 26, 27, 28, 29, 30, 31, 32, 33, 34, 35, 36, 37, 38, 39, 40, 41] (by decide +kernel) (by decide +kernel)
set_option maxRecDepth 20000 in
theorem gX10_cues_X10_told : GoodIn wsX10_cues (wsV RX10 123 RX10 yX10_told wsX10_told) := goodIn_app (goodIn_of _ (by decide +kernel)) ggX10_cues_X10_told
theorem dX10_cues_0 : decode cX10_cues 0 = .ok (.aload_n 0, 1) := by decide +kernel
theorem dX10_cues_1 : decode cX10_cues 1 = .ok (.aload_n 0, 1) := by decide +kernel
theorem dX10_cues_2 : decode cX10_cues 2 = .ok (.invokevirtual 130, 3) := by decide +kernel
theorem dX10_cues_5 : decode cX10_cues 5 = .ok (.invokevirtual 123, 3) := by decide +kernel
theorem dX10_cues_8 : decode cX10_cues 8 = .ok (.ireturn, 1) := by decide +kernel
set_option maxRecDepth 20000 in
theorem ggX10_fired_X10_lays : GoodIn wsX10_fired wsX10_lays := goodIn_r _ [6, 7, 8, 9, 10, 11, 1, 12, 13, 14, 15, 16, 17, 18, 19, 20, 5, 21, 22, 23, 24, 25, 26, 27, 28, 29, 30, 31, 32, 33, 34, 35, 36, 37, 38, 39, 40, 41, 42, 43, 44, 45, 46, 47, 48, 49, 50, 51, 52, 53, 54, 55, 56, 57, 58, 59, 60, 61, 62, 63, 64, 65, 66, 67, 68, 69, 75, 76, 77, 78, 79, 80, 81, 82, 83, 84, 85, 86, 87, 88, 89, 90, 91, 92, 93, 94, 95, 96, 97, 98, 99, 100, 101, 102, 103] (by decide +kernel) (by decide +kernel)
set_option maxRecDepth 20000 in
theorem gX10_fired_X10_lays : GoodIn wsX10_fired (wsV RX10 165 RX10 yX10_lays wsX10_lays) := goodIn_app (goodIn_of _ (by decide +kernel)) ggX10_fired_X10_lays
set_option maxRecDepth 20000 in
theorem ggX10_fired_X10_told : GoodIn wsX10_fired wsX10_told := goodIn_r _ [73, 74, 75, 76, 77, 78, 79, 80, 81, 82, 83, 84, 85, 86, 87, 88, 89, 90, 91, 92, 93, 94, 95, 96, 97, 98, 99, 100, 101, 102, 103] (by decide +kernel) (by decide +kernel)
set_option maxRecDepth 20000 in
theorem gX10_fired_X10_told : GoodIn wsX10_fired (wsV RX10 123 RX10 yX10_told wsX10_told) := goodIn_app (goodIn_of _ (by decide +kernel)) ggX10_fired_X10_told
theorem dX10_fired_0 : decode cX10_fired 0 = .ok (.aload_n 0, 1) := by decide +kernel
theorem dX10_fired_1 : decode cX10_fired 1 = .ok (.invokevirtual 165, 3) := by decide +kernel
theorem dX10_fired_4 : decode cX10_fired 4 = .ok (.aload_n 0, 1) := by decide +kernel
theorem dX10_fired_5 : decode cX10_fired 5 = .ok (.aload_n 0, 1) := by decide +kernel
theorem dX10_fired_6 : decode cX10_fired 6 = .ok (.getfield 147, 3) := by decide +kernel
theorem dX10_fired_9 : decode cX10_fired 9 = .ok (.invokevirtual 123, 3) := by decide +kernel
theorem dX10_fired_12 : decode cX10_fired 12 = .ok (.ireturn, 1) := by decide +kernel
set_option maxRecDepth 20000 in
theorem ggX10_firing_X10_lays : GoodIn wsX10_firing wsX10_lays := goodIn_r _ [7, 8, 9, 10, 11, 12, 1, 13, 14, 15, 16, 17, 2, 18, 19, 20, 6, 21, 22, 23, 24, 25, 26, 27, 28, 29, 30, 31, 32, 33, 34, 35, 36, 37, 38, 39, 40, 41, 42, 43, 44, 45, 46, 47, 48, 49, 50, 51, 52, 53, 54, 55, 56, 57, 58, 59, 60, 61, 62, 63, 64, 65, 66, 67, 68, 69, 75, 76, 77, 78, 79, 80, 81, 82, 83, 84, 85, 86, 87, 88, 89, 90, 91, 92, 93, 94, 95, 96, 97, 98, 99, 100, 101, 102, 103] (by decide +kernel) (by decide +kernel)
set_option maxRecDepth 20000 in
theorem gX10_firing_X10_lays : GoodIn wsX10_firing (wsV RX10 165 RX10 yX10_lays wsX10_lays) := goodIn_app (goodIn_of _ (by decide +kernel)) ggX10_firing_X10_lays
set_option maxRecDepth 20000 in
theorem ggX10_firing_X10_in : GoodIn wsX10_firing wsX10_in := goodIn_r _ [43] (by decide +kernel) (by decide +kernel)
set_option maxRecDepth 20000 in
theorem gX10_firing_X10_in : GoodIn wsX10_firing (va_wsS RX10 97 yX10_in wsX10_in) := goodIn_app (goodIn_of _ (by decide +kernel)) ggX10_firing_X10_in
set_option maxRecDepth 20000 in
theorem ggX10_firing_X10_goes : GoodIn wsX10_firing wsX10_goes := goodIn_r _ [73, 74, 75, 76, 77, 78, 79, 80, 81, 82, 83, 84, 85, 86, 87, 88, 89, 90, 91, 92, 93, 94, 95, 96, 97, 98, 99, 100, 101, 102, 103] (by decide +kernel) (by decide +kernel)
set_option maxRecDepth 20000 in
theorem gX10_firing_X10_goes : GoodIn wsX10_firing (wsV RX10 108 RX10 yX10_goes wsX10_goes) := goodIn_app (goodIn_of _ (by decide +kernel)) ggX10_firing_X10_goes
theorem dX10_firing_0 : decode cX10_firing 0 = .ok (.aload_n 0, 1) := by decide +kernel
theorem dX10_firing_1 : decode cX10_firing 1 = .ok (.invokevirtual 165, 3) := by decide +kernel
theorem dX10_firing_4 : decode cX10_firing 4 = .ok (.aload_n 0, 1) := by decide +kernel
theorem dX10_firing_5 : decode cX10_firing 5 = .ok (.iload_n 1, 1) := by decide +kernel
theorem dX10_firing_6 : decode cX10_firing 6 = .ok (.iconst 0, 1) := by decide +kernel
theorem dX10_firing_7 : decode cX10_firing 7 = .ok (.aload_n 0, 1) := by decide +kernel
theorem dX10_firing_8 : decode cX10_firing 8 = .ok (.getfield 147, 3) := by decide +kernel
theorem dX10_firing_11 : decode cX10_firing 11 = .ok (.iconst 1, 1) := by decide +kernel
theorem dX10_firing_12 : decode cX10_firing 12 = .ok (.isub, 1) := by decide +kernel
theorem dX10_firing_13 : decode cX10_firing 13 = .ok (.invokestatic 97, 3) := by decide +kernel
theorem dX10_firing_16 : decode cX10_firing 16 = .ok (.iconst 1, 1) := by decide +kernel
theorem dX10_firing_17 : decode cX10_firing 17 = .ok (.invokevirtual 108, 3) := by decide +kernel
theorem dX10_firing_20 : decode cX10_firing 20 = .ok (.ifCond .eq 12, 3) := by decide +kernel
theorem dX10_firing_23 : decode cX10_firing 23 = .ok (.aload_n 0, 1) := by decide +kernel
theorem dX10_firing_24 : decode cX10_firing 24 = .ok (.getfield 84, 3) := by decide +kernel
theorem dX10_firing_27 : decode cX10_firing 27 = .ok (.iload_n 1, 1) := by decide +kernel
theorem dX10_firing_28 : decode cX10_firing 28 = .ok (.iaload, 1) := by decide +kernel
theorem dX10_firing_29 : decode cX10_firing 29 = .ok (.goto 4, 3) := by decide +kernel
theorem dX10_firing_32 : decode cX10_firing 32 = .ok (.iconst 0, 1) := by decide +kernel
theorem dX10_firing_33 : decode cX10_firing 33 = .ok (.ireturn, 1) := by decide +kernel
set_option maxRecDepth 20000 in
theorem ggX10_closed_X10_lays : GoodIn wsX10_closed wsX10_lays := goodIn_r _ [5, 6, 7, 8, 9, 10, 11, 12, 13, 14, 15, 16, 17, 18, 19, 20, 4, 21, 22, 23, 24, 25, 26, 27, 28, 29, 30, 31, 32, 33, 34, 35, 36, 37, 38, 39, 40, 41, 42, 43, 44, 45, 46, 47, 48, 49, 50, 51, 52, 53, 54, 55, 56, 57, 58, 59, 60, 61, 62, 63, 64, 65, 66, 67, 68, 69, 75, 76, 77, 78, 79, 80, 81, 82, 83, 84, 85, 86, 87, 88, 89, 90, 91, 92, 93, 94, 95, 96, 97, 98, 99, 100, 101, 102, 103] (by decide +kernel) (by decide +kernel)
set_option maxRecDepth 20000 in
theorem gX10_closed_X10_lays : GoodIn wsX10_closed (wsV RX10 165 RX10 yX10_lays wsX10_lays) := goodIn_app (goodIn_of _ (by decide +kernel)) ggX10_closed_X10_lays
set_option maxRecDepth 20000 in
theorem ggX10_closed_X10_closedAhead : GoodIn wsX10_closed wsX10_closedAhead := goodIn_r _ [47, 48, 49, 50, 4, 51, 6, 8, 13, 7, 75, 76, 77, 78, 79, 80, 81, 82, 83, 84, 85, 86, 87, 88, 89, 90, 91, 92, 93, 94, 95, 96, 97, 98, 99, 100, 101, 102, 103] (by decide +kernel) (by decide +kernel)
set_option maxRecDepth 20000 in
theorem gX10_closed_X10_closedAhead : GoodIn wsX10_closed (wsV RX10 150 RX10 yX10_closedAhead wsX10_closedAhead) := goodIn_app (goodIn_of _ (by decide +kernel)) ggX10_closed_X10_closedAhead
set_option maxRecDepth 20000 in
theorem ggX10_closed_X10_told : GoodIn wsX10_closed wsX10_told := goodIn_r _ [73, 74, 75, 76, 77, 78, 79, 80, 81, 82, 83, 84, 85, 86, 87, 88, 89, 90, 91, 92, 93, 94, 95, 96, 97, 98, 99, 100, 101, 102, 103] (by decide +kernel) (by decide +kernel)
set_option maxRecDepth 20000 in
theorem gX10_closed_X10_told : GoodIn wsX10_closed (wsV RX10 123 RX10 yX10_told wsX10_told) := goodIn_app (goodIn_of _ (by decide +kernel)) ggX10_closed_X10_told
theorem dX10_closed_0 : decode cX10_closed 0 = .ok (.aload_n 0, 1) := by decide +kernel
theorem dX10_closed_1 : decode cX10_closed 1 = .ok (.invokevirtual 165, 3) := by decide +kernel
theorem dX10_closed_4 : decode cX10_closed 4 = .ok (.aload_n 0, 1) := by decide +kernel
theorem dX10_closed_5 : decode cX10_closed 5 = .ok (.aload_n 0, 1) := by decide +kernel
theorem dX10_closed_6 : decode cX10_closed 6 = .ok (.bipush 101, 2) := by decide +kernel
theorem dX10_closed_8 : decode cX10_closed 8 = .ok (.invokevirtual 150, 3) := by decide +kernel
theorem dX10_closed_11 : decode cX10_closed 11 = .ok (.invokevirtual 123, 3) := by decide +kernel
theorem dX10_closed_14 : decode cX10_closed 14 = .ok (.ireturn, 1) := by decide +kernel
set_option maxRecDepth 20000 in
theorem ggX10_isChannel_X10_in : GoodIn wsX10_isChannel wsX10_in := goodIn_r _ [4] (by decide +kernel) (by decide +kernel)
set_option maxRecDepth 20000 in
theorem gX10_isChannel_X10_in : GoodIn wsX10_isChannel (va_wsS RX10 97 yX10_in wsX10_in) := goodIn_app (goodIn_of _ (by decide +kernel)) ggX10_isChannel_X10_in
theorem dX10_isChannel_0 : decode cX10_isChannel 0 = .ok (.iload_n 0, 1) := by decide +kernel
theorem dX10_isChannel_1 : decode cX10_isChannel 1 = .ok (.iconst 0, 1) := by decide +kernel
theorem dX10_isChannel_2 : decode cX10_isChannel 2 = .ok (.iconst 3, 1) := by decide +kernel
theorem dX10_isChannel_3 : decode cX10_isChannel 3 = .ok (.invokestatic 97, 3) := by decide +kernel
theorem dX10_isChannel_6 : decode cX10_isChannel 6 = .ok (.ifCond .eq 17, 3) := by decide +kernel
theorem dX10_isChannel_9 : decode cX10_isChannel 9 = .ok (.iload_n 1, 1) := by decide +kernel
theorem dX10_isChannel_10 : decode cX10_isChannel 10 = .ok (.iconst 0, 1) := by decide +kernel
theorem dX10_isChannel_11 : decode cX10_isChannel 11 = .ok (.bipush 7, 2) := by decide +kernel
theorem dX10_isChannel_13 : decode cX10_isChannel 13 = .ok (.invokestatic 97, 3) := by decide +kernel
theorem dX10_isChannel_16 : decode cX10_isChannel 16 = .ok (.ifCond .eq 7, 3) := by decide +kernel
theorem dX10_isChannel_19 : decode cX10_isChannel 19 = .ok (.iconst 1, 1) := by decide +kernel
theorem dX10_isChannel_20 : decode cX10_isChannel 20 = .ok (.goto 4, 3) := by decide +kernel
theorem dX10_isChannel_23 : decode cX10_isChannel 23 = .ok (.iconst 0, 1) := by decide +kernel
theorem dX10_isChannel_24 : decode cX10_isChannel 24 = .ok (.ireturn, 1) := by decide +kernel
set_option maxRecDepth 20000 in
theorem ggX10_kill_X10_isChannel : GoodIn wsX10_kill wsX10_isChannel := goodIn_r _ [5, 6, 7, 4, 8] (by decide +kernel) (by decide +kernel)
set_option maxRecDepth 20000 in
theorem gX10_kill_X10_isChannel : GoodIn wsX10_kill (va_wsS RX10 175 yX10_isChannel wsX10_isChannel) := goodIn_app (goodIn_of _ (by decide +kernel)) ggX10_kill_X10_isChannel
set_option maxRecDepth 20000 in
theorem ggX10_kill_X10_goes : GoodIn wsX10_kill wsX10_goes := goodIn_r _ [12, 13, 14, 15, 16, 17, 18, 19, 20, 21, 22, 23, 24, 25, 26, 27, 28, 29, 30, 31, 32, 33, 34, 35, 36, 37, 38, 39, 40, 41, 42] (by decide +kernel) (by decide +kernel)
set_option maxRecDepth 20000 in
theorem gX10_kill_X10_goes : GoodIn wsX10_kill (wsV RX10 108 RX10 yX10_goes wsX10_goes) := goodIn_app (goodIn_of _ (by decide +kernel)) ggX10_kill_X10_goes
theorem dX10_kill_0 : decode cX10_kill 0 = .ok (.aload_n 0, 1) := by decide +kernel
theorem dX10_kill_1 : decode cX10_kill 1 = .ok (.iload_n 1, 1) := by decide +kernel
theorem dX10_kill_2 : decode cX10_kill 2 = .ok (.iload_n 2, 1) := by decide +kernel
theorem dX10_kill_3 : decode cX10_kill 3 = .ok (.invokestatic 175, 3) := by decide +kernel
theorem dX10_kill_6 : decode cX10_kill 6 = .ok (.iconst 1, 1) := by decide +kernel
theorem dX10_kill_7 : decode cX10_kill 7 = .ok (.invokevirtual 108, 3) := by decide +kernel
theorem dX10_kill_10 : decode cX10_kill 10 = .ok (.ifCond .ne 5, 3) := by decide +kernel
theorem dX10_kill_13 : decode cX10_kill 13 = .ok (.iconst 0, 1) := by decide +kernel
theorem dX10_kill_14 : decode cX10_kill 14 = .ok (.ireturn, 1) := by decide +kernel
theorem dX10_kill_15 : decode cX10_kill 15 = .ok (.aload_n 0, 1) := by decide +kernel
theorem dX10_kill_16 : decode cX10_kill 16 = .ok (.getfield 52, 3) := by decide +kernel
theorem dX10_kill_19 : decode cX10_kill 19 = .ok (.bipush 8, 2) := by decide +kernel
theorem dX10_kill_21 : decode cX10_kill 21 = .ok (.iload_n 1, 1) := by decide +kernel
theorem dX10_kill_22 : decode cX10_kill 22 = .ok (.imul, 1) := by decide +kernel
theorem dX10_kill_23 : decode cX10_kill 23 = .ok (.iload_n 2, 1) := by decide +kernel
theorem dX10_kill_24 : decode cX10_kill 24 = .ok (.iadd, 1) := by decide +kernel
theorem dX10_kill_25 : decode cX10_kill 25 = .ok (.aload_n 0, 1) := by decide +kernel
theorem dX10_kill_26 : decode cX10_kill 26 = .ok (.getfield 52, 3) := by decide +kernel
theorem dX10_kill_29 : decode cX10_kill 29 = .ok (.bipush 8, 2) := by decide +kernel
theorem dX10_kill_31 : decode cX10_kill 31 = .ok (.iload_n 1, 1) := by decide +kernel
theorem dX10_kill_32 : decode cX10_kill 32 = .ok (.imul, 1) := by decide +kernel
theorem dX10_kill_33 : decode cX10_kill 33 = .ok (.iload_n 2, 1) := by decide +kernel
theorem dX10_kill_34 : decode cX10_kill 34 = .ok (.iadd, 1) := by decide +kernel
theorem dX10_kill_35 : decode cX10_kill 35 = .ok (.baload, 1) := by decide +kernel
theorem dX10_kill_36 : decode cX10_kill 36 = .ok (.ifCond .ne 7, 3) := by decide +kernel
theorem dX10_kill_39 : decode cX10_kill 39 = .ok (.iconst 1, 1) := by decide +kernel
theorem dX10_kill_40 : decode cX10_kill 40 = .ok (.goto 4, 3) := by decide +kernel
theorem dX10_kill_43 : decode cX10_kill 43 = .ok (.iconst 0, 1) := by decide +kernel
theorem dX10_kill_44 : decode cX10_kill 44 = .ok (.bastore, 1) := by decide +kernel
theorem dX10_kill_45 : decode cX10_kill 45 = .ok (.aload_n 0, 1) := by decide +kernel
theorem dX10_kill_46 : decode cX10_kill 46 = .ok (.getfield 52, 3) := by decide +kernel
theorem dX10_kill_49 : decode cX10_kill 49 = .ok (.bipush 8, 2) := by decide +kernel
theorem dX10_kill_51 : decode cX10_kill 51 = .ok (.iload_n 1, 1) := by decide +kernel
theorem dX10_kill_52 : decode cX10_kill 52 = .ok (.imul, 1) := by decide +kernel
theorem dX10_kill_53 : decode cX10_kill 53 = .ok (.iload_n 2, 1) := by decide +kernel
theorem dX10_kill_54 : decode cX10_kill 54 = .ok (.iadd, 1) := by decide +kernel
theorem dX10_kill_55 : decode cX10_kill 55 = .ok (.baload, 1) := by decide +kernel
theorem dX10_kill_56 : decode cX10_kill 56 = .ok (.ireturn, 1) := by decide +kernel
set_option maxRecDepth 20000 in
theorem ggX10_setGap_X10_in : GoodIn wsX10_setGap wsX10_in := goodIn_r _ [5] (by decide +kernel) (by decide +kernel)
set_option maxRecDepth 20000 in
theorem gX10_setGap_X10_in : GoodIn wsX10_setGap (va_wsS RX10 97 yX10_in wsX10_in) := goodIn_app (goodIn_of _ (by decide +kernel)) ggX10_setGap_X10_in
set_option maxRecDepth 20000 in
theorem ggX10_setGap_X10_goes : GoodIn wsX10_setGap wsX10_goes := goodIn_r _ [9, 10, 11, 12, 13, 14, 15, 16, 17, 18, 19, 20, 21, 22, 23, 24, 25, 26, 27, 28, 29, 30, 31, 32, 33, 34, 35, 36, 37, 38, 39] (by decide +kernel) (by decide +kernel)
set_option maxRecDepth 20000 in
theorem gX10_setGap_X10_goes : GoodIn wsX10_setGap (wsV RX10 108 RX10 yX10_goes wsX10_goes) := goodIn_app (goodIn_of _ (by decide +kernel)) ggX10_setGap_X10_goes
theorem dX10_setGap_0 : decode cX10_setGap 0 = .ok (.aload_n 0, 1) := by decide +kernel
theorem dX10_setGap_1 : decode cX10_setGap 1 = .ok (.iload_n 1, 1) := by decide +kernel
theorem dX10_setGap_2 : decode cX10_setGap 2 = .ok (.iconst 0, 1) := by decide +kernel
theorem dX10_setGap_3 : decode cX10_setGap 3 = .ok (.bipush 20, 2) := by decide +kernel
theorem dX10_setGap_5 : decode cX10_setGap 5 = .ok (.invokestatic 97, 3) := by decide +kernel
theorem dX10_setGap_8 : decode cX10_setGap 8 = .ok (.iconst 1, 1) := by decide +kernel
theorem dX10_setGap_9 : decode cX10_setGap 9 = .ok (.invokevirtual 108, 3) := by decide +kernel
theorem dX10_setGap_12 : decode cX10_setGap 12 = .ok (.ifCond .ne 5, 3) := by decide +kernel
theorem dX10_setGap_15 : decode cX10_setGap 15 = .ok (.iconst 0, 1) := by decide +kernel
theorem dX10_setGap_16 : decode cX10_setGap 16 = .ok (.ireturn, 1) := by decide +kernel
theorem dX10_setGap_17 : decode cX10_setGap 17 = .ok (.aload_n 0, 1) := by decide +kernel
theorem dX10_setGap_18 : decode cX10_setGap 18 = .ok (.getfield 60, 3) := by decide +kernel
theorem dX10_setGap_21 : decode cX10_setGap 21 = .ok (.istore_n 2, 1) := by decide +kernel
theorem dX10_setGap_22 : decode cX10_setGap 22 = .ok (.aload_n 0, 1) := by decide +kernel
theorem dX10_setGap_23 : decode cX10_setGap 23 = .ok (.iload_n 1, 1) := by decide +kernel
theorem dX10_setGap_24 : decode cX10_setGap 24 = .ok (.putfield 60, 3) := by decide +kernel
theorem dX10_setGap_27 : decode cX10_setGap 27 = .ok (.iload_n 2, 1) := by decide +kernel
theorem dX10_setGap_28 : decode cX10_setGap 28 = .ok (.ireturn, 1) := by decide +kernel
set_option maxRecDepth 20000 in
theorem ggX10_channelOf_X10_asks : GoodIn wsX10_channelOf wsX10_asks := goodIn_r _ [6, 7, 8, 9, 5, 10, 11, 12, 13, 1, 14, 15, 16, 17, 18, 19, 20, 21, 22, 23, 24, 25, 26, 27, 28, 29, 30, 31, 32, 33, 34, 35, 36, 37, 38, 39, 40, 41, 42, 43, 44, 45, 46, 47, 48, 49, 50, 51, 52, 53, 54, 55, 56, 57, 58, 59, 60, 61, 62, 63, 64, 65, 66, 67, 68, 69, 70, 71, 72, 73, 74, 75, 76, 77, 78, 79, 80, 81, 82, 83, 84, 85, 86, 87, 88, 89, 90, 91, 92, 93, 94, 95, 96, 97, 98, 99, 100, 101, 102, 103, 104, 105, 106, 107, 108, 109, 110, 111] (by decide +kernel) (by decide +kernel)
set_option maxRecDepth 20000 in
theorem gX10_channelOf_X10_asks : GoodIn wsX10_channelOf (wsV RX10 168 RX10 yX10_asks wsX10_asks) := goodIn_app (goodIn_of _ (by decide +kernel)) ggX10_channelOf_X10_asks
theorem dX10_channelOf_0 : decode cX10_channelOf 0 = .ok (.aload_n 0, 1) := by decide +kernel
theorem dX10_channelOf_1 : decode cX10_channelOf 1 = .ok (.iload_n 1, 1) := by decide +kernel
theorem dX10_channelOf_2 : decode cX10_channelOf 2 = .ok (.invokevirtual 168, 3) := by decide +kernel
theorem dX10_channelOf_5 : decode cX10_channelOf 5 = .ok (.ifCond .eq 12, 3) := by decide +kernel
theorem dX10_channelOf_8 : decode cX10_channelOf 8 = .ok (.aload_n 0, 1) := by decide +kernel
theorem dX10_channelOf_9 : decode cX10_channelOf 9 = .ok (.getfield 81, 3) := by decide +kernel
theorem dX10_channelOf_12 : decode cX10_channelOf 12 = .ok (.iload_n 1, 1) := by decide +kernel
theorem dX10_channelOf_13 : decode cX10_channelOf 13 = .ok (.iaload, 1) := by decide +kernel
theorem dX10_channelOf_14 : decode cX10_channelOf 14 = .ok (.goto 4, 3) := by decide +kernel
theorem dX10_channelOf_17 : decode cX10_channelOf 17 = .ok (.iconst 0, 1) := by decide +kernel
theorem dX10_channelOf_18 : decode cX10_channelOf 18 = .ok (.ireturn, 1) := by decide +kernel
set_option maxRecDepth 20000 in
theorem ggX10_cueOn_X10_lays : GoodIn wsX10_cueOn wsX10_lays := goodIn_r _ [6, 7, 8, 9, 10, 1, 11, 12, 13, 14, 15, 16, 17, 18, 19, 20, 5, 21, 22, 23, 24, 25, 26, 27, 28, 29, 30, 31, 32, 33, 34, 35, 36, 37, 38, 39, 40, 41, 42, 43, 44, 45, 46, 47, 48, 49, 50, 51, 52, 53, 54, 55, 56, 57, 58, 59, 60, 61, 62, 63, 64, 65, 66, 67, 68, 69, 78, 79, 80, 81, 82, 83, 84, 85, 86, 87, 88, 89, 90, 91, 92, 93, 94, 95, 96, 97, 98, 99, 100, 101, 102, 103, 104, 105, 106] (by decide +kernel) (by decide +kernel)
set_option maxRecDepth 20000 in
theorem gX10_cueOn_X10_lays : GoodIn wsX10_cueOn (wsV RX10 165 RX10 yX10_lays wsX10_lays) := goodIn_app (goodIn_of _ (by decide +kernel)) ggX10_cueOn_X10_lays
set_option maxRecDepth 20000 in
theorem ggX10_cueOn_X10_isChannel : GoodIn wsX10_cueOn wsX10_isChannel := goodIn_r _ [72, 41, 42, 5, 43] (by decide +kernel) (by decide +kernel)
set_option maxRecDepth 20000 in
theorem gX10_cueOn_X10_isChannel : GoodIn wsX10_cueOn (va_wsS RX10 175 yX10_isChannel wsX10_isChannel) := goodIn_app (goodIn_of _ (by decide +kernel)) ggX10_cueOn_X10_isChannel
set_option maxRecDepth 20000 in
theorem ggX10_cueOn_X10_goes : GoodIn wsX10_cueOn wsX10_goes := goodIn_r _ [76, 77, 78, 79, 80, 81, 82, 83, 84, 85, 86, 87, 88, 89, 90, 91, 92, 93, 94, 95, 96, 97, 98, 99, 100, 101, 102, 103, 104, 105, 106] (by decide +kernel) (by decide +kernel)
set_option maxRecDepth 20000 in
theorem gX10_cueOn_X10_goes : GoodIn wsX10_cueOn (wsV RX10 108 RX10 yX10_goes wsX10_goes) := goodIn_app (goodIn_of _ (by decide +kernel)) ggX10_cueOn_X10_goes
theorem dX10_cueOn_0 : decode cX10_cueOn 0 = .ok (.aload_n 0, 1) := by decide +kernel
theorem dX10_cueOn_1 : decode cX10_cueOn 1 = .ok (.invokevirtual 165, 3) := by decide +kernel
theorem dX10_cueOn_4 : decode cX10_cueOn 4 = .ok (.aload_n 0, 1) := by decide +kernel
theorem dX10_cueOn_5 : decode cX10_cueOn 5 = .ok (.iload_n 1, 1) := by decide +kernel
theorem dX10_cueOn_6 : decode cX10_cueOn 6 = .ok (.iload_n 2, 1) := by decide +kernel
theorem dX10_cueOn_7 : decode cX10_cueOn 7 = .ok (.invokestatic 175, 3) := by decide +kernel
theorem dX10_cueOn_10 : decode cX10_cueOn 10 = .ok (.iconst 1, 1) := by decide +kernel
theorem dX10_cueOn_11 : decode cX10_cueOn 11 = .ok (.invokevirtual 108, 3) := by decide +kernel
theorem dX10_cueOn_14 : decode cX10_cueOn 14 = .ok (.ifCond .eq 17, 3) := by decide +kernel
theorem dX10_cueOn_17 : decode cX10_cueOn 17 = .ok (.aload_n 0, 1) := by decide +kernel
theorem dX10_cueOn_18 : decode cX10_cueOn 18 = .ok (.getfield 87, 3) := by decide +kernel
theorem dX10_cueOn_21 : decode cX10_cueOn 21 = .ok (.bipush 8, 2) := by decide +kernel
theorem dX10_cueOn_23 : decode cX10_cueOn 23 = .ok (.iload_n 1, 1) := by decide +kernel
theorem dX10_cueOn_24 : decode cX10_cueOn 24 = .ok (.imul, 1) := by decide +kernel
theorem dX10_cueOn_25 : decode cX10_cueOn 25 = .ok (.iload_n 2, 1) := by decide +kernel
theorem dX10_cueOn_26 : decode cX10_cueOn 26 = .ok (.iadd, 1) := by decide +kernel
theorem dX10_cueOn_27 : decode cX10_cueOn 27 = .ok (.iaload, 1) := by decide +kernel
theorem dX10_cueOn_28 : decode cX10_cueOn 28 = .ok (.goto 4, 3) := by decide +kernel
theorem dX10_cueOn_31 : decode cX10_cueOn 31 = .ok (.iconst 0, 1) := by decide +kernel
theorem dX10_cueOn_32 : decode cX10_cueOn 32 = .ok (.ireturn, 1) := by decide +kernel
set_option maxRecDepth 20000 in
theorem ggX10_spares_X10_lays : GoodIn wsX10_spares wsX10_lays := goodIn_r _ [6, 7, 8, 9, 10, 1, 11, 12, 13, 14, 15, 16, 17, 18, 19, 20, 5, 21, 22, 23, 24, 25, 26, 27, 28, 29, 30, 31, 32, 33, 34, 35, 36, 37, 38, 39, 40, 41, 42, 43, 44, 45, 46, 47, 48, 49, 50, 51, 52, 53, 54, 55, 56, 57, 58, 59, 60, 61, 62, 63, 64, 65, 66, 67, 68, 69, 75, 76, 77, 78, 79, 80, 81, 82, 83, 84, 85, 86, 87, 88, 89, 90, 91, 92, 93, 94, 95, 96, 97, 98, 99, 100, 101, 102, 103] (by decide +kernel) (by decide +kernel)
set_option maxRecDepth 20000 in
theorem gX10_spares_X10_lays : GoodIn wsX10_spares (wsV RX10 165 RX10 yX10_lays wsX10_lays) := goodIn_app (goodIn_of _ (by decide +kernel)) ggX10_spares_X10_lays
set_option maxRecDepth 20000 in
theorem ggX10_spares_X10_told : GoodIn wsX10_spares wsX10_told := goodIn_r _ [73, 74, 75, 76, 77, 78, 79, 80, 81, 82, 83, 84, 85, 86, 87, 88, 89, 90, 91, 92, 93, 94, 95, 96, 97, 98, 99, 100, 101, 102, 103] (by decide +kernel) (by decide +kernel)
set_option maxRecDepth 20000 in
theorem gX10_spares_X10_told : GoodIn wsX10_spares (wsV RX10 123 RX10 yX10_told wsX10_told) := goodIn_app (goodIn_of _ (by decide +kernel)) ggX10_spares_X10_told
theorem dX10_spares_0 : decode cX10_spares 0 = .ok (.aload_n 0, 1) := by decide +kernel
theorem dX10_spares_1 : decode cX10_spares 1 = .ok (.invokevirtual 165, 3) := by decide +kernel
theorem dX10_spares_4 : decode cX10_spares 4 = .ok (.iconst 0, 1) := by decide +kernel
theorem dX10_spares_5 : decode cX10_spares 5 = .ok (.istore_n 1, 1) := by decide +kernel
theorem dX10_spares_6 : decode cX10_spares 6 = .ok (.iconst 0, 1) := by decide +kernel
theorem dX10_spares_7 : decode cX10_spares 7 = .ok (.istore_n 2, 1) := by decide +kernel
theorem dX10_spares_8 : decode cX10_spares 8 = .ok (.iload_n 2, 1) := by decide +kernel
theorem dX10_spares_9 : decode cX10_spares 9 = .ok (.bipush 32, 2) := by decide +kernel
theorem dX10_spares_11 : decode cX10_spares 11 = .ok (.if_icmp .ge 36, 3) := by decide +kernel
theorem dX10_spares_14 : decode cX10_spares 14 = .ok (.iload_n 1, 1) := by decide +kernel
theorem dX10_spares_15 : decode cX10_spares 15 = .ok (.iload_n 2, 1) := by decide +kernel
theorem dX10_spares_16 : decode cX10_spares 16 = .ok (.bipush 8, 2) := by decide +kernel
theorem dX10_spares_18 : decode cX10_spares 18 = .ok (.irem, 1) := by decide +kernel
theorem dX10_spares_19 : decode cX10_spares 19 = .ok (.bipush 6, 2) := by decide +kernel
theorem dX10_spares_21 : decode cX10_spares 21 = .ok (.if_icmp .lt 17, 3) := by decide +kernel
theorem dX10_spares_24 : decode cX10_spares 24 = .ok (.aload_n 0, 1) := by decide +kernel
theorem dX10_spares_25 : decode cX10_spares 25 = .ok (.getfield 87, 3) := by decide +kernel
theorem dX10_spares_28 : decode cX10_spares 28 = .ok (.iload_n 2, 1) := by decide +kernel
theorem dX10_spares_29 : decode cX10_spares 29 = .ok (.iaload, 1) := by decide +kernel
theorem dX10_spares_30 : decode cX10_spares 30 = .ok (.iconst (-1), 1) := by decide +kernel
theorem dX10_spares_31 : decode cX10_spares 31 = .ok (.if_icmp .eq 7, 3) := by decide +kernel
theorem dX10_spares_34 : decode cX10_spares 34 = .ok (.iconst 1, 1) := by decide +kernel
theorem dX10_spares_35 : decode cX10_spares 35 = .ok (.goto 4, 3) := by decide +kernel
theorem dX10_spares_38 : decode cX10_spares 38 = .ok (.iconst 0, 1) := by decide +kernel
theorem dX10_spares_39 : decode cX10_spares 39 = .ok (.iadd, 1) := by decide +kernel
theorem dX10_spares_40 : decode cX10_spares 40 = .ok (.istore_n 1, 1) := by decide +kernel
theorem dX10_spares_41 : decode cX10_spares 41 = .ok (.iinc 2 1, 3) := by decide +kernel
theorem dX10_spares_44 : decode cX10_spares 44 = .ok (.goto (-36), 3) := by decide +kernel
theorem dX10_spares_47 : decode cX10_spares 47 = .ok (.aload_n 0, 1) := by decide +kernel
theorem dX10_spares_48 : decode cX10_spares 48 = .ok (.iload_n 1, 1) := by decide +kernel
theorem dX10_spares_49 : decode cX10_spares 49 = .ok (.invokevirtual 123, 3) := by decide +kernel
theorem dX10_spares_52 : decode cX10_spares 52 = .ok (.ireturn, 1) := by decide +kernel
set_option maxRecDepth 20000 in
theorem ggX10_setRate_X10_in : GoodIn wsX10_setRate wsX10_in := goodIn_r _ [6] (by decide +kernel) (by decide +kernel)
set_option maxRecDepth 20000 in
theorem gX10_setRate_X10_in : GoodIn wsX10_setRate (va_wsS RX10 97 yX10_in wsX10_in) := goodIn_app (goodIn_of _ (by decide +kernel)) ggX10_setRate_X10_in
set_option maxRecDepth 20000 in
theorem ggX10_setRate_X10_goes : GoodIn wsX10_setRate wsX10_goes := goodIn_r _ [10, 11, 12, 13, 14, 15, 16, 17, 18, 19, 20, 21, 22, 23, 24, 25, 26, 27, 28, 29, 30, 31, 32, 33, 34, 35, 36, 37, 38, 39, 40] (by decide +kernel) (by decide +kernel)
set_option maxRecDepth 20000 in
theorem gX10_setRate_X10_goes : GoodIn wsX10_setRate (wsV RX10 108 RX10 yX10_goes wsX10_goes) := goodIn_app (goodIn_of _ (by decide +kernel)) ggX10_setRate_X10_goes
theorem dX10_setRate_0 : decode cX10_setRate 0 = .ok (.aload_n 0, 1) := by decide +kernel
theorem dX10_setRate_1 : decode cX10_setRate 1 = .ok (.iload_n 1, 1) := by decide +kernel
theorem dX10_setRate_2 : decode cX10_setRate 2 = .ok (.iconst 0, 1) := by decide +kernel
theorem dX10_setRate_3 : decode cX10_setRate 3 = .ok (.bipush 9, 2) := by decide +kernel
theorem dX10_setRate_5 : decode cX10_setRate 5 = .ok (.invokestatic 97, 3) := by decide +kernel
theorem dX10_setRate_8 : decode cX10_setRate 8 = .ok (.ifCond .eq 17, 3) := by decide +kernel
theorem dX10_setRate_11 : decode cX10_setRate 11 = .ok (.iload_n 2, 1) := by decide +kernel
theorem dX10_setRate_12 : decode cX10_setRate 12 = .ok (.iconst 0, 1) := by decide +kernel
theorem dX10_setRate_13 : decode cX10_setRate 13 = .ok (.ldc 178, 2) := by decide +kernel
theorem dX10_setRate_15 : decode cX10_setRate 15 = .ok (.invokestatic 97, 3) := by decide +kernel
theorem dX10_setRate_18 : decode cX10_setRate 18 = .ok (.ifCond .eq 7, 3) := by decide +kernel
theorem dX10_setRate_21 : decode cX10_setRate 21 = .ok (.iconst 1, 1) := by decide +kernel
theorem dX10_setRate_22 : decode cX10_setRate 22 = .ok (.goto 4, 3) := by decide +kernel
theorem dX10_setRate_25 : decode cX10_setRate 25 = .ok (.iconst 0, 1) := by decide +kernel
theorem dX10_setRate_26 : decode cX10_setRate 26 = .ok (.iconst 1, 1) := by decide +kernel
theorem dX10_setRate_27 : decode cX10_setRate 27 = .ok (.invokevirtual 108, 3) := by decide +kernel
theorem dX10_setRate_30 : decode cX10_setRate 30 = .ok (.ifCond .ne 5, 3) := by decide +kernel
theorem dX10_setRate_33 : decode cX10_setRate 33 = .ok (.iconst 0, 1) := by decide +kernel
theorem dX10_setRate_34 : decode cX10_setRate 34 = .ok (.ireturn, 1) := by decide +kernel
theorem dX10_setRate_35 : decode cX10_setRate 35 = .ok (.aload_n 0, 1) := by decide +kernel
theorem dX10_setRate_36 : decode cX10_setRate 36 = .ok (.getfield 49, 3) := by decide +kernel
theorem dX10_setRate_39 : decode cX10_setRate 39 = .ok (.iload_n 1, 1) := by decide +kernel
theorem dX10_setRate_40 : decode cX10_setRate 40 = .ok (.iaload, 1) := by decide +kernel
theorem dX10_setRate_41 : decode cX10_setRate 41 = .ok (.istore_n 3, 1) := by decide +kernel
theorem dX10_setRate_42 : decode cX10_setRate 42 = .ok (.aload_n 0, 1) := by decide +kernel
theorem dX10_setRate_43 : decode cX10_setRate 43 = .ok (.getfield 49, 3) := by decide +kernel
theorem dX10_setRate_46 : decode cX10_setRate 46 = .ok (.iload_n 1, 1) := by decide +kernel
theorem dX10_setRate_47 : decode cX10_setRate 47 = .ok (.iload_n 2, 1) := by decide +kernel
theorem dX10_setRate_48 : decode cX10_setRate 48 = .ok (.iastore, 1) := by decide +kernel
theorem dX10_setRate_49 : decode cX10_setRate 49 = .ok (.iload_n 3, 1) := by decide +kernel
theorem dX10_setRate_50 : decode cX10_setRate 50 = .ok (.ireturn, 1) := by decide +kernel
set_option maxRecDepth 20000 in
theorem ggX10_priceOf_X10_isInDanger : GoodIn wsX10_priceOf wsX10_isInDanger := goodIn_r _ [8, 9, 10, 11, 12, 13, 7, 14, 15, 16, 17, 18, 19, 20, 21, 22, 23, 24, 25, 26, 27, 28, 29, 30, 31, 32, 33, 34, 35, 36, 37, 38, 39, 40, 41, 42, 43, 44, 45, 46, 47, 48, 49, 50, 51, 52, 53, 54, 55] (by decide +kernel) (by decide +kernel)
set_option maxRecDepth 20000 in
theorem gX10_priceOf_X10_isInDanger : GoodIn wsX10_priceOf (wsV RX10 141 RX10 yX10_isInDanger wsX10_isInDanger) := goodIn_app (goodIn_of _ (by decide +kernel)) ggX10_priceOf_X10_isInDanger
theorem dX10_priceOf_0 : decode cX10_priceOf 0 = .ok (.lconst 1, 1) := by decide +kernel
theorem dX10_priceOf_1 : decode cX10_priceOf 1 = .ok (.lstore_n 2, 1) := by decide +kernel
theorem dX10_priceOf_2 : decode cX10_priceOf 2 = .ok (.iconst 0, 1) := by decide +kernel
theorem dX10_priceOf_3 : decode cX10_priceOf 3 = .ok (.istore 4, 2) := by decide +kernel
theorem dX10_priceOf_5 : decode cX10_priceOf 5 = .ok (.iload 4, 2) := by decide +kernel
theorem dX10_priceOf_7 : decode cX10_priceOf 7 = .ok (.bipush 64, 2) := by decide +kernel
theorem dX10_priceOf_9 : decode cX10_priceOf 9 = .ok (.if_icmp .ge 34, 3) := by decide +kernel
theorem dX10_priceOf_12 : decode cX10_priceOf 12 = .ok (.lload_n 2, 1) := by decide +kernel
theorem dX10_priceOf_13 : decode cX10_priceOf 13 = .ok (.aload_n 0, 1) := by decide +kernel
theorem dX10_priceOf_14 : decode cX10_priceOf 14 = .ok (.iload_n 1, 1) := by decide +kernel
theorem dX10_priceOf_15 : decode cX10_priceOf 15 = .ok (.iload 4, 2) := by decide +kernel
theorem dX10_priceOf_17 : decode cX10_priceOf 17 = .ok (.invokevirtual 141, 3) := by decide +kernel
theorem dX10_priceOf_20 : decode cX10_priceOf 20 = .ok (.ifCond .eq 14, 3) := by decide +kernel
theorem dX10_priceOf_23 : decode cX10_priceOf 23 = .ok (.aload_n 0, 1) := by decide +kernel
theorem dX10_priceOf_24 : decode cX10_priceOf 24 = .ok (.getfield 46, 3) := by decide +kernel
theorem dX10_priceOf_27 : decode cX10_priceOf 27 = .ok (.iload 4, 2) := by decide +kernel
theorem dX10_priceOf_29 : decode cX10_priceOf 29 = .ok (.iaload, 1) := by decide +kernel
theorem dX10_priceOf_30 : decode cX10_priceOf 30 = .ok (.i2l, 1) := by decide +kernel
theorem dX10_priceOf_31 : decode cX10_priceOf 31 = .ok (.goto 4, 3) := by decide +kernel
theorem dX10_priceOf_34 : decode cX10_priceOf 34 = .ok (.lconst 0, 1) := by decide +kernel
theorem dX10_priceOf_35 : decode cX10_priceOf 35 = .ok (.ladd, 1) := by decide +kernel
theorem dX10_priceOf_36 : decode cX10_priceOf 36 = .ok (.lstore_n 2, 1) := by decide +kernel
theorem dX10_priceOf_37 : decode cX10_priceOf 37 = .ok (.iinc 4 1, 3) := by decide +kernel
theorem dX10_priceOf_40 : decode cX10_priceOf 40 = .ok (.goto (-35), 3) := by decide +kernel
theorem dX10_priceOf_43 : decode cX10_priceOf 43 = .ok (.aload_n 0, 1) := by decide +kernel
theorem dX10_priceOf_44 : decode cX10_priceOf 44 = .ok (.getfield 78, 3) := by decide +kernel
theorem dX10_priceOf_47 : decode cX10_priceOf 47 = .ok (.iload_n 1, 1) := by decide +kernel
theorem dX10_priceOf_48 : decode cX10_priceOf 48 = .ok (.iaload, 1) := by decide +kernel
theorem dX10_priceOf_49 : decode cX10_priceOf 49 = .ok (.bipush 100, 2) := by decide +kernel
theorem dX10_priceOf_51 : decode cX10_priceOf 51 = .ok (.idiv, 1) := by decide +kernel
theorem dX10_priceOf_52 : decode cX10_priceOf 52 = .ok (.istore 4, 2) := by decide +kernel
theorem dX10_priceOf_54 : decode cX10_priceOf 54 = .ok (.lload_n 2, 1) := by decide +kernel
theorem dX10_priceOf_55 : decode cX10_priceOf 55 = .ok (.aload_n 0, 1) := by decide +kernel
theorem dX10_priceOf_56 : decode cX10_priceOf 56 = .ok (.getfield 49, 3) := by decide +kernel
theorem dX10_priceOf_59 : decode cX10_priceOf 59 = .ok (.iload 4, 2) := by decide +kernel
theorem dX10_priceOf_61 : decode cX10_priceOf 61 = .ok (.bipush 10, 2) := by decide +kernel
theorem dX10_priceOf_63 : decode cX10_priceOf 63 = .ok (.if_icmp .ge 8, 3) := by decide +kernel
theorem dX10_priceOf_66 : decode cX10_priceOf 66 = .ok (.iload 4, 2) := by decide +kernel
theorem dX10_priceOf_68 : decode cX10_priceOf 68 = .ok (.goto 5, 3) := by decide +kernel
theorem dX10_priceOf_71 : decode cX10_priceOf 71 = .ok (.bipush 9, 2) := by decide +kernel
theorem dX10_priceOf_73 : decode cX10_priceOf 73 = .ok (.iaload, 1) := by decide +kernel
theorem dX10_priceOf_74 : decode cX10_priceOf 74 = .ok (.i2l, 1) := by decide +kernel
theorem dX10_priceOf_75 : decode cX10_priceOf 75 = .ok (.lmul, 1) := by decide +kernel
