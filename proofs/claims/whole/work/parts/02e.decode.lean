theorem dX6_rowComes_228 : decode cX6_rowComes 228 = .ok (.aload_n 0, 1) := by decide +kernel
theorem dX6_rowComes_229 : decode cX6_rowComes 229 = .ok (.getfield 49, 3) := by decide +kernel
theorem dX6_rowComes_232 : decode cX6_rowComes 232 = .ok (.invokevirtual 77, 3) := by decide +kernel
theorem dX6_rowComes_235 : decode cX6_rowComes 235 = .ok (.aload_n 0, 1) := by decide +kernel
theorem dX6_rowComes_236 : decode cX6_rowComes 236 = .ok (.getfield 52, 3) := by decide +kernel
theorem dX6_rowComes_239 : decode cX6_rowComes 239 = .ok (.iload_n 1, 1) := by decide +kernel
theorem dX6_rowComes_240 : decode cX6_rowComes 240 = .ok (.laload, 1) := by decide +kernel
theorem dX6_rowComes_241 : decode cX6_rowComes 241 = .ok (.aload_n 0, 1) := by decide +kernel
theorem dX6_rowComes_242 : decode cX6_rowComes 242 = .ok (.getfield 43, 3) := by decide +kernel
theorem dX6_rowComes_245 : decode cX6_rowComes 245 = .ok (.iload_n 1, 1) := by decide +kernel
theorem dX6_rowComes_246 : decode cX6_rowComes 246 = .ok (.laload, 1) := by decide +kernel
theorem dX6_rowComes_247 : decode cX6_rowComes 247 = .ok (.lcmp, 1) := by decide +kernel
theorem dX6_rowComes_248 : decode cX6_rowComes 248 = .ok (.ifCond .eq 5, 3) := by decide +kernel
theorem dX6_rowComes_251 : decode cX6_rowComes 251 = .ok (.iconst 0, 1) := by decide +kernel
theorem dX6_rowComes_252 : decode cX6_rowComes 252 = .ok (.ireturn, 1) := by decide +kernel
theorem dX6_rowComes_253 : decode cX6_rowComes 253 = .ok (.iload_n 3, 1) := by decide +kernel
theorem dX6_rowComes_254 : decode cX6_rowComes 254 = .ok (.istore 7, 2) := by decide +kernel
theorem dX6_rowComes_256 : decode cX6_rowComes 256 = .ok (.iload 7, 2) := by decide +kernel
theorem dX6_rowComes_258 : decode cX6_rowComes 258 = .ok (.iload 4, 2) := by decide +kernel
theorem dX6_rowComes_260 : decode cX6_rowComes 260 = .ok (.if_icmp .gt 23, 3) := by decide +kernel
theorem dX6_rowComes_263 : decode cX6_rowComes 263 = .ok (.aload_n 0, 1) := by decide +kernel
theorem dX6_rowComes_264 : decode cX6_rowComes 264 = .ok (.getfield 36, 3) := by decide +kernel
theorem dX6_rowComes_267 : decode cX6_rowComes 267 = .ok (.iload 7, 2) := by decide +kernel
theorem dX6_rowComes_269 : decode cX6_rowComes 269 = .ok (.aload_n 0, 1) := by decide +kernel
theorem dX6_rowComes_270 : decode cX6_rowComes 270 = .ok (.getfield 49, 3) := by decide +kernel
theorem dX6_rowComes_273 : decode cX6_rowComes 273 = .ok (.iload 7, 2) := by decide +kernel
theorem dX6_rowComes_275 : decode cX6_rowComes 275 = .ok (.laload, 1) := by decide +kernel
theorem dX6_rowComes_276 : decode cX6_rowComes 276 = .ok (.lastore, 1) := by decide +kernel
theorem dX6_rowComes_277 : decode cX6_rowComes 277 = .ok (.iinc 7 1, 3) := by decide +kernel
theorem dX6_rowComes_280 : decode cX6_rowComes 280 = .ok (.goto (-24), 3) := by decide +kernel
theorem dX6_rowComes_283 : decode cX6_rowComes 283 = .ok (.iconst 1, 1) := by decide +kernel
theorem dX6_rowComes_284 : decode cX6_rowComes 284 = .ok (.ireturn, 1) := by decide +kernel
set_option maxRecDepth 20000 in
theorem ggX6_play_X6_in : GoodIn wsX6_play wsX6_in := goodIn_r _ [9] (by decide +kernel) (by decide +kernel)
set_option maxRecDepth 20000 in
theorem gX6_play_X6_in : GoodIn wsX6_play (va_wsS RX6 66 yX6_in wsX6_in) := goodIn_app (goodIn_of _ (by decide +kernel)) ggX6_play_X6_in
set_option maxRecDepth 20000 in
theorem ggX6_play_X6_lacking : GoodIn wsX6_play wsX6_lacking := goodIn_r _ [13, 14, 15, 16, 17, 8, 18, 19, 20, 21, 22, 23, 24, 25, 26, 27, 28, 29, 30, 31, 78, 79, 80, 81, 82, 83, 84, 85, 86, 87, 88, 89, 90, 91, 92, 93, 94, 95, 96, 97] (by decide +kernel) (by decide +kernel)
set_option maxRecDepth 20000 in
theorem gX6_play_X6_lacking : GoodIn wsX6_play (wsV RX6 106 RX6 yX6_lacking wsX6_lacking) := goodIn_app (goodIn_of _ (by decide +kernel)) ggX6_play_X6_lacking
set_option maxRecDepth 20000 in
theorem ggX6_play_X6_missing : GoodIn wsX6_play wsX6_missing := goodIn_r _ [35, 14, 15, 16, 17, 8, 18, 19, 20, 21, 22, 23, 24, 25, 26, 27, 28, 29, 30, 31, 78, 79, 80, 81, 82, 83, 84, 85, 86, 87, 88, 89, 90, 91, 92, 93, 94, 95, 96, 97] (by decide +kernel) (by decide +kernel)
set_option maxRecDepth 20000 in
theorem gX6_play_X6_missing : GoodIn wsX6_play (wsV RX6 135 RX6 yX6_missing wsX6_missing) := goodIn_app (goodIn_of _ (by decide +kernel)) ggX6_play_X6_missing
set_option maxRecDepth 20000 in
theorem ggX6_play_X6_asking : GoodIn wsX6_play wsX6_asking := goodIn_r _ [39, 40, 41, 42, 43, 1, 44, 45, 46, 47, 48, 49, 8, 50, 51, 52, 53, 54, 55, 56, 57, 58, 31, 14, 21, 22, 23, 24, 25, 59, 60, 61, 62, 63, 20, 64, 65, 66, 67, 68, 69, 6, 7, 9, 15, 16, 17, 18, 19, 70, 71, 72, 73, 74, 75, 76, 77, 30, 78, 79, 80, 81, 82, 83, 84, 85, 86, 87, 88, 89, 90, 91, 92, 93, 94, 95, 96, 97] (by decide +kernel) (by decide +kernel)
set_option maxRecDepth 20000 in
theorem gX6_play_X6_asking : GoodIn wsX6_play (wsV RX6 110 RX6 yX6_asking wsX6_asking) := goodIn_app (goodIn_of _ (by decide +kernel)) ggX6_play_X6_asking
theorem dX6_play_0 : decode cX6_play 0 = .ok (.iload_n 3, 1) := by decide +kernel
theorem dX6_play_1 : decode cX6_play 1 = .ok (.iconst 1, 1) := by decide +kernel
theorem dX6_play_2 : decode cX6_play 2 = .ok (.sipush 300, 3) := by decide +kernel
theorem dX6_play_5 : decode cX6_play 5 = .ok (.invokestatic 66, 3) := by decide +kernel
theorem dX6_play_8 : decode cX6_play 8 = .ok (.ifCond .ne 5, 3) := by decide +kernel
theorem dX6_play_11 : decode cX6_play 11 = .ok (.iconst (-1), 1) := by decide +kernel
theorem dX6_play_12 : decode cX6_play 12 = .ok (.ireturn, 1) := by decide +kernel
theorem dX6_play_13 : decode cX6_play 13 = .ok (.aload_n 0, 1) := by decide +kernel
theorem dX6_play_14 : decode cX6_play 14 = .ok (.getfield 32, 3) := by decide +kernel
theorem dX6_play_17 : decode cX6_play 17 = .ok (.ifCond .ge 6, 3) := by decide +kernel
theorem dX6_play_20 : decode cX6_play 20 = .ok (.bipush (-3), 2) := by decide +kernel
theorem dX6_play_22 : decode cX6_play 22 = .ok (.ireturn, 1) := by decide +kernel
theorem dX6_play_23 : decode cX6_play 23 = .ok (.lload_n 1, 1) := by decide +kernel
theorem dX6_play_24 : decode cX6_play 24 = .ok (.lstore 4, 2) := by decide +kernel
theorem dX6_play_26 : decode cX6_play 26 = .ok (.iconst 0, 1) := by decide +kernel
theorem dX6_play_27 : decode cX6_play 27 = .ok (.istore 6, 2) := by decide +kernel
theorem dX6_play_29 : decode cX6_play 29 = .ok (.iconst 0, 1) := by decide +kernel
theorem dX6_play_30 : decode cX6_play 30 = .ok (.istore 7, 2) := by decide +kernel
theorem dX6_play_32 : decode cX6_play 32 = .ok (.iload 7, 2) := by decide +kernel
theorem dX6_play_34 : decode cX6_play 34 = .ok (.iload_n 3, 1) := by decide +kernel
theorem dX6_play_35 : decode cX6_play 35 = .ok (.if_icmp .ge 114, 3) := by decide +kernel
theorem dX6_play_38 : decode cX6_play 38 = .ok (.aload_n 0, 1) := by decide +kernel
theorem dX6_play_39 : decode cX6_play 39 = .ok (.invokevirtual 106, 3) := by decide +kernel
theorem dX6_play_42 : decode cX6_play 42 = .ok (.istore 8, 2) := by decide +kernel
theorem dX6_play_44 : decode cX6_play 44 = .ok (.aload_n 0, 1) := by decide +kernel
theorem dX6_play_45 : decode cX6_play 45 = .ok (.getfield 81, 3) := by decide +kernel
theorem dX6_play_48 : decode cX6_play 48 = .ok (.ifCond .eq 8, 3) := by decide +kernel
theorem dX6_play_51 : decode cX6_play 51 = .ok (.iload 8, 2) := by decide +kernel
theorem dX6_play_53 : decode cX6_play 53 = .ok (.ifCond .ne 6, 3) := by decide +kernel
theorem dX6_play_56 : decode cX6_play 56 = .ok (.iload 6, 2) := by decide +kernel
theorem dX6_play_58 : decode cX6_play 58 = .ok (.ireturn, 1) := by decide +kernel
theorem dX6_play_59 : decode cX6_play 59 = .ok (.lload 4, 2) := by decide +kernel
theorem dX6_play_61 : decode cX6_play 61 = .ok (.ldc2_w 130, 3) := by decide +kernel
theorem dX6_play_64 : decode cX6_play 64 = .ok (.lmul, 1) := by decide +kernel
theorem dX6_play_65 : decode cX6_play 65 = .ok (.ldc2_w 132, 3) := by decide +kernel
theorem dX6_play_68 : decode cX6_play 68 = .ok (.ladd, 1) := by decide +kernel
theorem dX6_play_69 : decode cX6_play 69 = .ok (.lstore 4, 2) := by decide +kernel
theorem dX6_play_71 : decode cX6_play 71 = .ok (.lload 4, 2) := by decide +kernel
theorem dX6_play_73 : decode cX6_play 73 = .ok (.bipush 32, 2) := by decide +kernel
theorem dX6_play_75 : decode cX6_play 75 = .ok (.lushr, 1) := by decide +kernel
theorem dX6_play_76 : decode cX6_play 76 = .ok (.l2i, 1) := by decide +kernel
theorem dX6_play_77 : decode cX6_play 77 = .ok (.ldc 134, 2) := by decide +kernel
theorem dX6_play_79 : decode cX6_play 79 = .ok (.iand, 1) := by decide +kernel
theorem dX6_play_80 : decode cX6_play 80 = .ok (.istore 9, 2) := by decide +kernel
theorem dX6_play_82 : decode cX6_play 82 = .ok (.aload_n 0, 1) := by decide +kernel
theorem dX6_play_83 : decode cX6_play 83 = .ok (.iload 9, 2) := by decide +kernel
theorem dX6_play_85 : decode cX6_play 85 = .ok (.bipush 16, 2) := by decide +kernel
theorem dX6_play_87 : decode cX6_play 87 = .ok (.idiv, 1) := by decide +kernel
theorem dX6_play_88 : decode cX6_play 88 = .ok (.iload 8, 2) := by decide +kernel
theorem dX6_play_90 : decode cX6_play 90 = .ok (.irem, 1) := by decide +kernel
theorem dX6_play_91 : decode cX6_play 91 = .ok (.invokevirtual 135, 3) := by decide +kernel
theorem dX6_play_94 : decode cX6_play 94 = .ok (.istore 10, 2) := by decide +kernel
theorem dX6_play_96 : decode cX6_play 96 = .ok (.iload 9, 2) := by decide +kernel
theorem dX6_play_98 : decode cX6_play 98 = .ok (.sipush 4096, 3) := by decide +kernel
theorem dX6_play_101 : decode cX6_play 101 = .ok (.idiv, 1) := by decide +kernel
theorem dX6_play_102 : decode cX6_play 102 = .ok (.iconst 2, 1) := by decide +kernel
theorem dX6_play_103 : decode cX6_play 103 = .ok (.irem, 1) := by decide +kernel
theorem dX6_play_104 : decode cX6_play 104 = .ok (.iconst 1, 1) := by decide +kernel
theorem dX6_play_105 : decode cX6_play 105 = .ok (.if_icmp .ne 13, 3) := by decide +kernel
theorem dX6_play_108 : decode cX6_play 108 = .ok (.iload 10, 2) := by decide +kernel
theorem dX6_play_110 : decode cX6_play 110 = .ok (.iconst 3, 1) := by decide +kernel
theorem dX6_play_111 : decode cX6_play 111 = .ok (.if_icmp .le 7, 3) := by decide +kernel
theorem dX6_play_114 : decode cX6_play 114 = .ok (.iconst 1, 1) := by decide +kernel
theorem dX6_play_115 : decode cX6_play 115 = .ok (.goto 4, 3) := by decide +kernel
theorem dX6_play_118 : decode cX6_play 118 = .ok (.iconst 0, 1) := by decide +kernel
theorem dX6_play_119 : decode cX6_play 119 = .ok (.istore 11, 2) := by decide +kernel
theorem dX6_play_121 : decode cX6_play 121 = .ok (.aload_n 0, 1) := by decide +kernel
theorem dX6_play_122 : decode cX6_play 122 = .ok (.iload 9, 2) := by decide +kernel
theorem dX6_play_124 : decode cX6_play 124 = .ok (.aload_n 0, 1) := by decide +kernel
theorem dX6_play_125 : decode cX6_play 125 = .ok (.getfield 81, 3) := by decide +kernel
theorem dX6_play_128 : decode cX6_play 128 = .ok (.irem, 1) := by decide +kernel
theorem dX6_play_129 : decode cX6_play 129 = .ok (.iload 10, 2) := by decide +kernel
theorem dX6_play_131 : decode cX6_play 131 = .ok (.iload 11, 2) := by decide +kernel
theorem dX6_play_133 : decode cX6_play 133 = .ok (.invokevirtual 110, 3) := by decide +kernel
theorem dX6_play_136 : decode cX6_play 136 = .ok (.iconst 1, 1) := by decide +kernel
theorem dX6_play_137 : decode cX6_play 137 = .ok (.if_icmp .ne 6, 3) := by decide +kernel
theorem dX6_play_140 : decode cX6_play 140 = .ok (.iinc 6 1, 3) := by decide +kernel
theorem dX6_play_143 : decode cX6_play 143 = .ok (.iinc 7 1, 3) := by decide +kernel
theorem dX6_play_146 : decode cX6_play 146 = .ok (.goto (-114), 3) := by decide +kernel
theorem dX6_play_149 : decode cX6_play 149 = .ok (.iload 6, 2) := by decide +kernel
theorem dX6_play_151 : decode cX6_play 151 = .ok (.ireturn, 1) := by decide +kernel
set_option maxRecDepth 20000 in
theorem ggX6_joined_X6_build : GoodIn wsX6_joined wsX6_build := goodIn_r _ [9, 10, 3, 11, 12, 8, 13, 14, 15, 16, 17, 18, 19, 20, 21, 22, 23, 24, 25, 26, 27, 28, 29, 30, 31, 32, 33, 34, 35] (by decide +kernel) (by decide +kernel)
set_option maxRecDepth 20000 in
theorem gX6_joined_X6_build : GoodIn wsX6_joined (wsV RX6 77 RX6 yX6_build wsX6_build) := goodIn_app (goodIn_of _ (by decide +kernel)) ggX6_joined_X6_build
theorem dX6_joined_0 : decode cX6_joined 0 = .ok (.aload_n 0, 1) := by decide +kernel
theorem dX6_joined_1 : decode cX6_joined 1 = .ok (.aload_n 0, 1) := by decide +kernel
theorem dX6_joined_2 : decode cX6_joined 2 = .ok (.getfield 36, 3) := by decide +kernel
theorem dX6_joined_5 : decode cX6_joined 5 = .ok (.invokevirtual 77, 3) := by decide +kernel
theorem dX6_joined_8 : decode cX6_joined 8 = .ok (.aload_n 0, 1) := by decide +kernel
theorem dX6_joined_9 : decode cX6_joined 9 = .ok (.getfield 32, 3) := by decide +kernel
theorem dX6_joined_12 : decode cX6_joined 12 = .ok (.ifCond .lt 23, 3) := by decide +kernel
theorem dX6_joined_15 : decode cX6_joined 15 = .ok (.aload_n 0, 1) := by decide +kernel
theorem dX6_joined_16 : decode cX6_joined 16 = .ok (.getfield 52, 3) := by decide +kernel
theorem dX6_joined_19 : decode cX6_joined 19 = .ok (.iconst 1, 1) := by decide +kernel
theorem dX6_joined_20 : decode cX6_joined 20 = .ok (.laload, 1) := by decide +kernel
theorem dX6_joined_21 : decode cX6_joined 21 = .ok (.aload_n 0, 1) := by decide +kernel
theorem dX6_joined_22 : decode cX6_joined 22 = .ok (.getfield 43, 3) := by decide +kernel
theorem dX6_joined_25 : decode cX6_joined 25 = .ok (.iconst 1, 1) := by decide +kernel
theorem dX6_joined_26 : decode cX6_joined 26 = .ok (.laload, 1) := by decide +kernel
theorem dX6_joined_27 : decode cX6_joined 27 = .ok (.lcmp, 1) := by decide +kernel
theorem dX6_joined_28 : decode cX6_joined 28 = .ok (.ifCond .ne 7, 3) := by decide +kernel
theorem dX6_joined_31 : decode cX6_joined 31 = .ok (.iconst 1, 1) := by decide +kernel
theorem dX6_joined_32 : decode cX6_joined 32 = .ok (.goto 4, 3) := by decide +kernel
theorem dX6_joined_35 : decode cX6_joined 35 = .ok (.iconst 0, 1) := by decide +kernel
theorem dX6_joined_36 : decode cX6_joined 36 = .ok (.ireturn, 1) := by decide +kernel
set_option maxRecDepth 20000 in
theorem ggX6_held_X6_in : GoodIn wsX6_held wsX6_in := goodIn_r _ [5] (by decide +kernel) (by decide +kernel)
set_option maxRecDepth 20000 in
theorem gX6_held_X6_in : GoodIn wsX6_held (va_wsS RX6 66 yX6_in wsX6_in) := goodIn_app (goodIn_of _ (by decide +kernel)) ggX6_held_X6_in
theorem dX6_held_0 : decode cX6_held 0 = .ok (.iload_n 1, 1) := by decide +kernel
theorem dX6_held_1 : decode cX6_held 1 = .ok (.iconst 0, 1) := by decide +kernel
theorem dX6_held_2 : decode cX6_held 2 = .ok (.bipush 63, 2) := by decide +kernel
theorem dX6_held_4 : decode cX6_held 4 = .ok (.invokestatic 66, 3) := by decide +kernel
theorem dX6_held_7 : decode cX6_held 7 = .ok (.ifCond .eq 12, 3) := by decide +kernel
theorem dX6_held_10 : decode cX6_held 10 = .ok (.aload_n 0, 1) := by decide +kernel
theorem dX6_held_11 : decode cX6_held 11 = .ok (.getfield 36, 3) := by decide +kernel
theorem dX6_held_14 : decode cX6_held 14 = .ok (.iload_n 1, 1) := by decide +kernel
theorem dX6_held_15 : decode cX6_held 15 = .ok (.laload, 1) := by decide +kernel
theorem dX6_held_16 : decode cX6_held 16 = .ok (.goto 4, 3) := by decide +kernel
theorem dX6_held_19 : decode cX6_held 19 = .ok (.lconst 0, 1) := by decide +kernel
theorem dX6_held_20 : decode cX6_held 20 = .ok (.lreturn, 1) := by decide +kernel
set_option maxRecDepth 20000 in
theorem ggX6_mine_X6_in : GoodIn wsX6_mine wsX6_in := goodIn_r _ [6] (by decide +kernel) (by decide +kernel)
set_option maxRecDepth 20000 in
theorem gX6_mine_X6_in : GoodIn wsX6_mine (va_wsS RX6 66 yX6_in wsX6_in) := goodIn_app (goodIn_of _ (by decide +kernel)) ggX6_mine_X6_in
set_option maxRecDepth 20000 in
theorem ggX6_mine_X6_build : GoodIn wsX6_mine wsX6_build := goodIn_r _ [10, 11, 2, 12, 13, 5, 14, 15, 16, 17, 18, 19, 20, 21, 22, 23, 24, 25, 26, 27, 28, 29, 30, 31, 32, 33, 34, 35, 36] (by decide +kernel) (by decide +kernel)
set_option maxRecDepth 20000 in
theorem gX6_mine_X6_build : GoodIn wsX6_mine (wsV RX6 77 RX6 yX6_build wsX6_build) := goodIn_app (goodIn_of _ (by decide +kernel)) ggX6_mine_X6_build
theorem dX6_mine_0 : decode cX6_mine 0 = .ok (.iload_n 1, 1) := by decide +kernel
theorem dX6_mine_1 : decode cX6_mine 1 = .ok (.iconst 1, 1) := by decide +kernel
theorem dX6_mine_2 : decode cX6_mine 2 = .ok (.bipush 127, 2) := by decide +kernel
theorem dX6_mine_4 : decode cX6_mine 4 = .ok (.invokestatic 66, 3) := by decide +kernel
theorem dX6_mine_7 : decode cX6_mine 7 = .ok (.ifCond .ne 5, 3) := by decide +kernel
theorem dX6_mine_10 : decode cX6_mine 10 = .ok (.lconst 0, 1) := by decide +kernel
theorem dX6_mine_11 : decode cX6_mine 11 = .ok (.lreturn, 1) := by decide +kernel
theorem dX6_mine_12 : decode cX6_mine 12 = .ok (.aload_n 0, 1) := by decide +kernel
theorem dX6_mine_13 : decode cX6_mine 13 = .ok (.aload_n 0, 1) := by decide +kernel
theorem dX6_mine_14 : decode cX6_mine 14 = .ok (.getfield 36, 3) := by decide +kernel
theorem dX6_mine_17 : decode cX6_mine 17 = .ok (.invokevirtual 77, 3) := by decide +kernel
theorem dX6_mine_20 : decode cX6_mine 20 = .ok (.aload_n 0, 1) := by decide +kernel
theorem dX6_mine_21 : decode cX6_mine 21 = .ok (.getfield 52, 3) := by decide +kernel
theorem dX6_mine_24 : decode cX6_mine 24 = .ok (.iload_n 1, 1) := by decide +kernel
theorem dX6_mine_25 : decode cX6_mine 25 = .ok (.laload, 1) := by decide +kernel
theorem dX6_mine_26 : decode cX6_mine 26 = .ok (.lreturn, 1) := by decide +kernel
set_option maxRecDepth 20000 in
theorem ggX6_rot_X6_in : GoodIn wsX6_rot wsX6_in := goodIn_r _ [5] (by decide +kernel) (by decide +kernel)
set_option maxRecDepth 20000 in
theorem gX6_rot_X6_in : GoodIn wsX6_rot (va_wsS RX6 66 yX6_in wsX6_in) := goodIn_app (goodIn_of _ (by decide +kernel)) ggX6_rot_X6_in
set_option maxRecDepth 20000 in
theorem ggX6_rot_X6_lacking : GoodIn wsX6_rot wsX6_lacking := goodIn_r _ [9, 1, 10, 11, 12, 4, 13, 14, 15, 16, 17, 18, 19, 20, 21, 22, 23, 24, 25, 26, 27, 28, 29, 30, 31, 32, 33, 34, 35, 36, 37, 38, 39, 40, 41, 42, 43, 44, 45, 46] (by decide +kernel) (by decide +kernel)
set_option maxRecDepth 20000 in
theorem gX6_rot_X6_lacking : GoodIn wsX6_rot (wsV RX6 106 RX6 yX6_lacking wsX6_lacking) := goodIn_app (goodIn_of _ (by decide +kernel)) ggX6_rot_X6_lacking
theorem dX6_rot_0 : decode cX6_rot 0 = .ok (.iload_n 1, 1) := by decide +kernel
theorem dX6_rot_1 : decode cX6_rot 1 = .ok (.iconst 0, 1) := by decide +kernel
theorem dX6_rot_2 : decode cX6_rot 2 = .ok (.bipush 63, 2) := by decide +kernel
theorem dX6_rot_4 : decode cX6_rot 4 = .ok (.invokestatic 66, 3) := by decide +kernel
theorem dX6_rot_7 : decode cX6_rot 7 = .ok (.ifCond .ne 5, 3) := by decide +kernel
theorem dX6_rot_10 : decode cX6_rot 10 = .ok (.iconst (-1), 1) := by decide +kernel
theorem dX6_rot_11 : decode cX6_rot 11 = .ok (.ireturn, 1) := by decide +kernel
theorem dX6_rot_12 : decode cX6_rot 12 = .ok (.aload_n 0, 1) := by decide +kernel
theorem dX6_rot_13 : decode cX6_rot 13 = .ok (.getfield 36, 3) := by decide +kernel
theorem dX6_rot_16 : decode cX6_rot 16 = .ok (.iload_n 1, 1) := by decide +kernel
theorem dX6_rot_17 : decode cX6_rot 17 = .ok (.lload_n 2, 1) := by decide +kernel
theorem dX6_rot_18 : decode cX6_rot 18 = .ok (.lastore, 1) := by decide +kernel
theorem dX6_rot_19 : decode cX6_rot 19 = .ok (.aload_n 0, 1) := by decide +kernel
theorem dX6_rot_20 : decode cX6_rot 20 = .ok (.invokevirtual 106, 3) := by decide +kernel
theorem dX6_rot_23 : decode cX6_rot 23 = .ok (.ireturn, 1) := by decide +kernel
set_option maxRecDepth 20000 in
theorem ggX6_cut_X6_lacking : GoodIn wsX6_cut wsX6_lacking := goodIn_r _ [7, 8, 9, 10, 11, 6, 12, 13, 14, 15, 16, 17, 18, 19, 20, 21, 22, 23, 2, 24, 25, 26, 27, 28, 29, 30, 31, 32, 33, 34, 35, 36, 37, 38, 39, 40, 41, 42, 43, 44] (by decide +kernel) (by decide +kernel)
set_option maxRecDepth 20000 in
theorem gX6_cut_X6_lacking : GoodIn wsX6_cut (wsV RX6 106 RX6 yX6_lacking wsX6_lacking) := goodIn_app (goodIn_of _ (by decide +kernel)) ggX6_cut_X6_lacking
theorem dX6_cut_0 : decode cX6_cut 0 = .ok (.aload_n 0, 1) := by decide +kernel
theorem dX6_cut_1 : decode cX6_cut 1 = .ok (.getfield 32, 3) := by decide +kernel
theorem dX6_cut_4 : decode cX6_cut 4 = .ok (.ifCond .ge 6, 3) := by decide +kernel
theorem dX6_cut_7 : decode cX6_cut 7 = .ok (.bipush (-3), 2) := by decide +kernel
theorem dX6_cut_9 : decode cX6_cut 9 = .ok (.ireturn, 1) := by decide +kernel
theorem dX6_cut_10 : decode cX6_cut 10 = .ok (.iconst 2, 1) := by decide +kernel
theorem dX6_cut_11 : decode cX6_cut 11 = .ok (.istore_n 1, 1) := by decide +kernel
theorem dX6_cut_12 : decode cX6_cut 12 = .ok (.iload_n 1, 1) := by decide +kernel
theorem dX6_cut_13 : decode cX6_cut 13 = .ok (.sipush 128, 3) := by decide +kernel
theorem dX6_cut_16 : decode cX6_cut 16 = .ok (.if_icmp .ge 16, 3) := by decide +kernel
theorem dX6_cut_19 : decode cX6_cut 19 = .ok (.aload_n 0, 1) := by decide +kernel
theorem dX6_cut_20 : decode cX6_cut 20 = .ok (.getfield 39, 3) := by decide +kernel
theorem dX6_cut_23 : decode cX6_cut 23 = .ok (.iload_n 1, 1) := by decide +kernel
theorem dX6_cut_24 : decode cX6_cut 24 = .ok (.iconst 0, 1) := by decide +kernel
theorem dX6_cut_25 : decode cX6_cut 25 = .ok (.bastore, 1) := by decide +kernel
theorem dX6_cut_26 : decode cX6_cut 26 = .ok (.iinc 1 1, 3) := by decide +kernel
theorem dX6_cut_29 : decode cX6_cut 29 = .ok (.goto (-17), 3) := by decide +kernel
theorem dX6_cut_32 : decode cX6_cut 32 = .ok (.aload_n 0, 1) := by decide +kernel
theorem dX6_cut_33 : decode cX6_cut 33 = .ok (.invokevirtual 106, 3) := by decide +kernel
theorem dX6_cut_36 : decode cX6_cut 36 = .ok (.ireturn, 1) := by decide +kernel
set_option maxRecDepth 20000 in
theorem ggX6_count_X6_lacking : GoodIn wsX6_count wsX6_lacking := goodIn_r _ [13, 7, 14, 15, 16, 12, 17, 18, 19, 20, 21, 22, 23, 24, 25, 26, 27, 28, 8, 29, 30, 31, 32, 33, 34, 35, 36, 37, 38, 39, 40, 41, 42, 43, 44, 45, 46, 47, 48, 49] (by decide +kernel) (by decide +kernel)
set_option maxRecDepth 20000 in
theorem gX6_count_X6_lacking : GoodIn wsX6_count (wsV RX6 106 RX6 yX6_lacking wsX6_lacking) := goodIn_app (goodIn_of _ (by decide +kernel)) ggX6_count_X6_lacking
theorem dX6_count_0 : decode cX6_count 0 = .ok (.iconst 0, 1) := by decide +kernel
theorem dX6_count_1 : decode cX6_count 1 = .ok (.istore_n 2, 1) := by decide +kernel
theorem dX6_count_2 : decode cX6_count 2 = .ok (.iload_n 1, 1) := by decide +kernel
theorem dX6_count_3 : decode cX6_count 3 = .ok (.tableswitch 153 0 8 #[49, 54, 59, 64, 69, 74, 79, 84, 119], 49) := by decide +kernel
theorem dX6_count_52 : decode cX6_count 52 = .ok (.aload_n 0, 1) := by decide +kernel
theorem dX6_count_53 : decode cX6_count 53 = .ok (.getfield 70, 3) := by decide +kernel
theorem dX6_count_56 : decode cX6_count 56 = .ok (.ireturn, 1) := by decide +kernel
theorem dX6_count_57 : decode cX6_count 57 = .ok (.aload_n 0, 1) := by decide +kernel
theorem dX6_count_58 : decode cX6_count 58 = .ok (.getfield 81, 3) := by decide +kernel
theorem dX6_count_61 : decode cX6_count 61 = .ok (.ireturn, 1) := by decide +kernel
theorem dX6_count_62 : decode cX6_count 62 = .ok (.aload_n 0, 1) := by decide +kernel
theorem dX6_count_63 : decode cX6_count 63 = .ok (.getfield 32, 3) := by decide +kernel
theorem dX6_count_66 : decode cX6_count 66 = .ok (.ireturn, 1) := by decide +kernel
theorem dX6_count_67 : decode cX6_count 67 = .ok (.aload_n 0, 1) := by decide +kernel
theorem dX6_count_68 : decode cX6_count 68 = .ok (.invokevirtual 106, 3) := by decide +kernel
theorem dX6_count_71 : decode cX6_count 71 = .ok (.ireturn, 1) := by decide +kernel
theorem dX6_count_72 : decode cX6_count 72 = .ok (.aload_n 0, 1) := by decide +kernel
theorem dX6_count_73 : decode cX6_count 73 = .ok (.getfield 127, 3) := by decide +kernel
theorem dX6_count_76 : decode cX6_count 76 = .ok (.ireturn, 1) := by decide +kernel
theorem dX6_count_77 : decode cX6_count 77 = .ok (.aload_n 0, 1) := by decide +kernel
theorem dX6_count_78 : decode cX6_count 78 = .ok (.getfield 114, 3) := by decide +kernel
theorem dX6_count_81 : decode cX6_count 81 = .ok (.ireturn, 1) := by decide +kernel
theorem dX6_count_82 : decode cX6_count 82 = .ok (.aload_n 0, 1) := by decide +kernel
theorem dX6_count_83 : decode cX6_count 83 = .ok (.getfield 84, 3) := by decide +kernel
theorem dX6_count_86 : decode cX6_count 86 = .ok (.ireturn, 1) := by decide +kernel
theorem dX6_count_87 : decode cX6_count 87 = .ok (.iconst 0, 1) := by decide +kernel
theorem dX6_count_88 : decode cX6_count 88 = .ok (.istore_n 3, 1) := by decide +kernel
theorem dX6_count_89 : decode cX6_count 89 = .ok (.iload_n 3, 1) := by decide +kernel
theorem dX6_count_90 : decode cX6_count 90 = .ok (.bipush 64, 2) := by decide +kernel
theorem dX6_count_92 : decode cX6_count 92 = .ok (.if_icmp .ge 28, 3) := by decide +kernel
theorem dX6_count_95 : decode cX6_count 95 = .ok (.aload_n 0, 1) := by decide +kernel
theorem dX6_count_96 : decode cX6_count 96 = .ok (.getfield 36, 3) := by decide +kernel
theorem dX6_count_99 : decode cX6_count 99 = .ok (.iload_n 3, 1) := by decide +kernel
theorem dX6_count_100 : decode cX6_count 100 = .ok (.laload, 1) := by decide +kernel
theorem dX6_count_101 : decode cX6_count 101 = .ok (.lconst 0, 1) := by decide +kernel
theorem dX6_count_102 : decode cX6_count 102 = .ok (.lcmp, 1) := by decide +kernel
theorem dX6_count_103 : decode cX6_count 103 = .ok (.ifCond .eq 9, 3) := by decide +kernel
theorem dX6_count_106 : decode cX6_count 106 = .ok (.iload_n 2, 1) := by decide +kernel
theorem dX6_count_107 : decode cX6_count 107 = .ok (.iconst 1, 1) := by decide +kernel
theorem dX6_count_108 : decode cX6_count 108 = .ok (.iadd, 1) := by decide +kernel
theorem dX6_count_109 : decode cX6_count 109 = .ok (.goto 4, 3) := by decide +kernel
theorem dX6_count_112 : decode cX6_count 112 = .ok (.iload_n 2, 1) := by decide +kernel
theorem dX6_count_113 : decode cX6_count 113 = .ok (.istore_n 2, 1) := by decide +kernel
theorem dX6_count_114 : decode cX6_count 114 = .ok (.iinc 3 1, 3) := by decide +kernel
theorem dX6_count_117 : decode cX6_count 117 = .ok (.goto (-28), 3) := by decide +kernel
theorem dX6_count_120 : decode cX6_count 120 = .ok (.iload_n 2, 1) := by decide +kernel
theorem dX6_count_121 : decode cX6_count 121 = .ok (.ireturn, 1) := by decide +kernel
theorem dX6_count_122 : decode cX6_count 122 = .ok (.iconst 1, 1) := by decide +kernel
theorem dX6_count_123 : decode cX6_count 123 = .ok (.istore_n 3, 1) := by decide +kernel
theorem dX6_count_124 : decode cX6_count 124 = .ok (.iload_n 3, 1) := by decide +kernel
theorem dX6_count_125 : decode cX6_count 125 = .ok (.sipush 128, 3) := by decide +kernel
theorem dX6_count_128 : decode cX6_count 128 = .ok (.if_icmp .ge 26, 3) := by decide +kernel
theorem dX6_count_131 : decode cX6_count 131 = .ok (.aload_n 0, 1) := by decide +kernel
theorem dX6_count_132 : decode cX6_count 132 = .ok (.getfield 39, 3) := by decide +kernel
theorem dX6_count_135 : decode cX6_count 135 = .ok (.iload_n 3, 1) := by decide +kernel
theorem dX6_count_136 : decode cX6_count 136 = .ok (.baload, 1) := by decide +kernel
theorem dX6_count_137 : decode cX6_count 137 = .ok (.ifCond .eq 9, 3) := by decide +kernel
theorem dX6_count_140 : decode cX6_count 140 = .ok (.iload_n 2, 1) := by decide +kernel
theorem dX6_count_141 : decode cX6_count 141 = .ok (.iconst 1, 1) := by decide +kernel
theorem dX6_count_142 : decode cX6_count 142 = .ok (.iadd, 1) := by decide +kernel
theorem dX6_count_143 : decode cX6_count 143 = .ok (.goto 4, 3) := by decide +kernel
theorem dX6_count_146 : decode cX6_count 146 = .ok (.iload_n 2, 1) := by decide +kernel
theorem dX6_count_147 : decode cX6_count 147 = .ok (.istore_n 2, 1) := by decide +kernel
theorem dX6_count_148 : decode cX6_count 148 = .ok (.iinc 3 1, 3) := by decide +kernel
theorem dX6_count_151 : decode cX6_count 151 = .ok (.goto (-27), 3) := by decide +kernel
theorem dX6_count_154 : decode cX6_count 154 = .ok (.iload_n 2, 1) := by decide +kernel
theorem dX6_count_155 : decode cX6_count 155 = .ok (.ireturn, 1) := by decide +kernel
theorem dX6_count_156 : decode cX6_count 156 = .ok (.iconst (-1), 1) := by decide +kernel
theorem dX6_count_157 : decode cX6_count 157 = .ok (.ireturn, 1) := by decide +kernel
theorem dJ9_max_7cf53_0 : decode cJ9_max_7cf53 0 = .ok (.iload_n 0, 1) := by decide +kernel
theorem dJ9_max_7cf53_1 : decode cJ9_max_7cf53 1 = .ok (.iload_n 1, 1) := by decide +kernel
theorem dJ9_max_7cf53_2 : decode cJ9_max_7cf53 2 = .ok (.if_icmp .lt 7, 3) := by decide +kernel
theorem dJ9_max_7cf53_5 : decode cJ9_max_7cf53 5 = .ok (.iload_n 0, 1) := by decide +kernel
theorem dJ9_max_7cf53_6 : decode cJ9_max_7cf53 6 = .ok (.goto 4, 3) := by decide +kernel
theorem dJ9_max_7cf53_9 : decode cJ9_max_7cf53 9 = .ok (.iload_n 1, 1) := by decide +kernel
theorem dJ9_max_7cf53_10 : decode cJ9_max_7cf53 10 = .ok (.ireturn, 1) := by decide +kernel
theorem dJ9_min_7cf53_0 : decode cJ9_min_7cf53 0 = .ok (.iload_n 0, 1) := by decide +kernel
theorem dJ9_min_7cf53_1 : decode cJ9_min_7cf53 1 = .ok (.iload_n 1, 1) := by decide +kernel
theorem dJ9_min_7cf53_2 : decode cJ9_min_7cf53 2 = .ok (.if_icmp .gt 7, 3) := by decide +kernel
theorem dJ9_min_7cf53_5 : decode cJ9_min_7cf53 5 = .ok (.iload_n 0, 1) := by decide +kernel
theorem dJ9_min_7cf53_6 : decode cJ9_min_7cf53 6 = .ok (.goto 4, 3) := by decide +kernel
theorem dJ9_min_7cf53_9 : decode cJ9_min_7cf53 9 = .ok (.iload_n 1, 1) := by decide +kernel
theorem dJ9_min_7cf53_10 : decode cJ9_min_7cf53 10 = .ok (.ireturn, 1) := by decide +kernel
