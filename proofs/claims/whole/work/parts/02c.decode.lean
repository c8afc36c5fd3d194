set_option maxRecDepth 20000 in
theorem gX5_target_X3_hasHeight : GoodIn wsX5_target (wsV RX5 59 RX3 yX3_hasHeight wsX3_hasHeight) := goodIn_app (goodIn_of _ (by decide +kernel)) ggX5_target_X3_hasHeight
set_option maxRecDepth 20000 in
theorem ggX5_target_X1_aim : GoodIn wsX5_target wsX1_aim := goodIn_r _ [14, 15, 16, 17, 18, 19, 20, 21, 22, 23, 24, 7, 25, 26, 9, 27, 28, 29, 30, 31, 32, 33, 34, 35, 36, 37, 38, 39, 40, 41, 42, 43, 44, 45, 46, 47, 48, 49, 50, 51, 52, 53, 54, 55, 56, 57, 58, 13, 59, 60, 61, 62, 63, 64, 65, 66, 67, 68, 69, 70, 71, 72, 73, 74, 75, 76, 77, 78, 79, 80, 81, 82, 83, 84, 85, 86, 87, 88, 89, 96, 97, 98, 99, 100, 101, 102, 103, 107, 108, 104, 105, 106] (by decide +kernel) (by decide +kernel)
set_option maxRecDepth 20000 in
theorem gX5_target_X1_aim : GoodIn wsX5_target (wsV RX5 96 RX1 yX1_aim wsX1_aim) := goodIn_app (goodIn_of _ (by decide +kernel)) ggX5_target_X1_aim
theorem dX5_target_0 : decode cX5_target 0 = .ok (.aload_n 0, 1) := by decide +kernel
theorem dX5_target_1 : decode cX5_target 1 = .ok (.getfield 10, 3) := by decide +kernel
theorem dX5_target_4 : decode cX5_target 4 = .ok (.iload_n 1, 1) := by decide +kernel
theorem dX5_target_5 : decode cX5_target 5 = .ok (.invokevirtual 59, 3) := by decide +kernel
theorem dX5_target_8 : decode cX5_target 8 = .ok (.ifCond .ne 5, 3) := by decide +kernel
theorem dX5_target_11 : decode cX5_target 11 = .ok (.iconst (-1), 1) := by decide +kernel
theorem dX5_target_12 : decode cX5_target 12 = .ok (.ireturn, 1) := by decide +kernel
theorem dX5_target_13 : decode cX5_target 13 = .ok (.aload_n 0, 1) := by decide +kernel
theorem dX5_target_14 : decode cX5_target 14 = .ok (.getfield 26, 3) := by decide +kernel
theorem dX5_target_17 : decode cX5_target 17 = .ok (.iload_n 1, 1) := by decide +kernel
theorem dX5_target_18 : decode cX5_target 18 = .ok (.aload_n 0, 1) := by decide +kernel
theorem dX5_target_19 : decode cX5_target 19 = .ok (.getfield 10, 3) := by decide +kernel
theorem dX5_target_22 : decode cX5_target 22 = .ok (.invokevirtual 96, 3) := by decide +kernel
theorem dX5_target_25 : decode cX5_target 25 = .ok (.aload_n 0, 1) := by decide +kernel
theorem dX5_target_26 : decode cX5_target 26 = .ok (.getfield 26, 3) := by decide +kernel
theorem dX5_target_29 : decode cX5_target 29 = .ok (.getfield 100, 3) := by decide +kernel
theorem dX5_target_32 : decode cX5_target 32 = .ok (.ireturn, 1) := by decide +kernel
set_option maxRecDepth 20000 in
theorem ggX5_ask_X0_has : GoodIn wsX5_ask wsX0_has := goodIn_r _ [7, 8, 165, 166, 167, 168, 169, 170, 171, 172] (by decide +kernel) (by decide +kernel)
set_option maxRecDepth 20000 in
theorem gX5_ask_X0_has : GoodIn wsX5_ask (wsV RX5 83 RX0 yX0_has wsX0_has) := goodIn_app (goodIn_of _ (by decide +kernel)) ggX5_ask_X0_has
set_option maxRecDepth 20000 in
theorem ggX5_ask_X4_isNode : GoodIn wsX5_ask wsX4_isNode := goodIn_r _ [12] (by decide +kernel) (by decide +kernel)
set_option maxRecDepth 20000 in
theorem gX5_ask_X4_isNode : GoodIn wsX5_ask (va_wsS RX5 66 yX4_isNode wsX4_isNode) := goodIn_app (goodIn_of _ (by decide +kernel)) ggX5_ask_X4_isNode
set_option maxRecDepth 20000 in
theorem ggX5_ask_X1_lacks : GoodIn wsX5_ask wsX1_lacks := goodIn_r _ [17, 18, 19, 20, 21, 10, 11, 12, 22, 23, 24, 25, 26, 27, 28, 29, 30, 173, 174, 175, 176, 177, 178, 179, 180, 181, 182] (by decide +kernel) (by decide +kernel)
set_option maxRecDepth 20000 in
theorem gX5_ask_X1_lacks : GoodIn wsX5_ask (wsV RX5 103 RX1 yX1_lacks wsX1_lacks) := goodIn_app (goodIn_of _ (by decide +kernel)) ggX5_ask_X1_lacks
set_option maxRecDepth 20000 in
theorem ggX5_ask_X5_exchange : GoodIn wsX5_ask wsX5_exchange := goodIn_r _ [35, 1, 2, 36, 37, 38, 39, 40, 41, 42, 3, 4, 5, 6, 7, 8, 43, 44, 45, 46, 47, 48, 49, 50, 51, 52, 29, 11, 30, 53, 54, 55, 56, 57, 58, 59, 60, 61, 62, 63, 64, 65, 66, 27, 10, 12, 67, 68, 69, 70, 71, 72, 73, 74, 75, 76, 26, 77, 78, 79, 80, 81, 82, 83, 84, 85, 86, 87, 88, 89, 90, 91, 92, 93, 94, 95, 96, 97, 98, 99, 100, 101, 102, 103, 104, 105, 106, 107, 108, 109, 110, 111, 112, 113, 114, 115, 116, 117, 23, 24, 25, 118, 119, 120, 16, 121, 122, 19, 21, 123, 124, 125, 126, 127, 128, 129, 130, 131, 132, 133, 134, 20, 135, 136, 137, 138, 139, 18, 140, 141, 142, 143, 144, 145, 146, 147, 148, 149, 150, 151, 14, 15, 17, 22, 28, 152, 153, 154, 155, 156, 157, 158, 159, 160, 161, 162, 163, 164, 173, 174, 175, 176, 177, 178, 179, 180, 165, 166, 167, 168, 169, 170, 171, 172, 183, 184, 185, 186, 187, 188, 181, 182] (by decide +kernel) (by decide +kernel)
set_option maxRecDepth 20000 in
theorem gX5_ask_X5_exchange : GoodIn wsX5_ask (wsV RX5 106 RX5 yX5_exchange wsX5_exchange) := goodIn_app (goodIn_of _ (by decide +kernel)) ggX5_ask_X5_exchange
theorem dX5_ask_0 : decode cX5_ask 0 = .ok (.aload_n 0, 1) := by decide +kernel
theorem dX5_ask_1 : decode cX5_ask 1 = .ok (.getfield 19, 3) := by decide +kernel
theorem dX5_ask_4 : decode cX5_ask 4 = .ok (.iload_n 1, 1) := by decide +kernel
theorem dX5_ask_5 : decode cX5_ask 5 = .ok (.invokevirtual 83, 3) := by decide +kernel
theorem dX5_ask_8 : decode cX5_ask 8 = .ok (.ifCond .eq 19, 3) := by decide +kernel
theorem dX5_ask_11 : decode cX5_ask 11 = .ok (.iload_n 2, 1) := by decide +kernel
theorem dX5_ask_12 : decode cX5_ask 12 = .ok (.invokestatic 66, 3) := by decide +kernel
theorem dX5_ask_15 : decode cX5_ask 15 = .ok (.ifCond .eq 12, 3) := by decide +kernel
theorem dX5_ask_18 : decode cX5_ask 18 = .ok (.iload_n 3, 1) := by decide +kernel
theorem dX5_ask_19 : decode cX5_ask 19 = .ok (.ifCond .eq 10, 3) := by decide +kernel
theorem dX5_ask_22 : decode cX5_ask 22 = .ok (.iload_n 2, 1) := by decide +kernel
theorem dX5_ask_23 : decode cX5_ask 23 = .ok (.iconst 4, 1) := by decide +kernel
theorem dX5_ask_24 : decode cX5_ask 24 = .ok (.if_icmp .ge 5, 3) := by decide +kernel
theorem dX5_ask_27 : decode cX5_ask 27 = .ok (.iconst (-1), 1) := by decide +kernel
theorem dX5_ask_28 : decode cX5_ask 28 = .ok (.ireturn, 1) := by decide +kernel
theorem dX5_ask_29 : decode cX5_ask 29 = .ok (.aload_n 0, 1) := by decide +kernel
theorem dX5_ask_30 : decode cX5_ask 30 = .ok (.getfield 26, 3) := by decide +kernel
theorem dX5_ask_33 : decode cX5_ask 33 = .ok (.iload_n 2, 1) := by decide +kernel
theorem dX5_ask_34 : decode cX5_ask 34 = .ok (.invokevirtual 103, 3) := by decide +kernel
theorem dX5_ask_37 : decode cX5_ask 37 = .ok (.ifCond .eq 13, 3) := by decide +kernel
theorem dX5_ask_40 : decode cX5_ask 40 = .ok (.aload_n 0, 1) := by decide +kernel
theorem dX5_ask_41 : decode cX5_ask 41 = .ok (.iload_n 1, 1) := by decide +kernel
theorem dX5_ask_42 : decode cX5_ask 42 = .ok (.iload_n 2, 1) := by decide +kernel
theorem dX5_ask_43 : decode cX5_ask 43 = .ok (.iload_n 3, 1) := by decide +kernel
theorem dX5_ask_44 : decode cX5_ask 44 = .ok (.invokevirtual 106, 3) := by decide +kernel
theorem dX5_ask_47 : decode cX5_ask 47 = .ok (.goto 5, 3) := by decide +kernel
theorem dX5_ask_50 : decode cX5_ask 50 = .ok (.bipush (-3), 2) := by decide +kernel
theorem dX5_ask_52 : decode cX5_ask 52 = .ok (.ireturn, 1) := by decide +kernel
set_option maxRecDepth 20000 in
theorem ggX5_play_X1_hasGoal : GoodIn wsX5_play wsX1_hasGoal := goodIn_r _ [12, 13, 185, 186, 187, 188, 189, 190, 191, 192] (by decide +kernel) (by decide +kernel)
set_option maxRecDepth 20000 in
theorem gX5_play_X1_hasGoal : GoodIn wsX5_play (wsV RX5 110 RX1 yX1_hasGoal wsX1_hasGoal) := goodIn_app (goodIn_of _ (by decide +kernel)) ggX5_play_X1_hasGoal
set_option maxRecDepth 20000 in
theorem ggX5_play_X1_lackAt : GoodIn wsX5_play wsX1_lackAt := goodIn_r _ [17, 18, 19, 185, 186, 187, 188, 189, 190, 191, 192] (by decide +kernel) (by decide +kernel)
set_option maxRecDepth 20000 in
theorem gX5_play_X1_lackAt : GoodIn wsX5_play (wsV RX5 119 RX1 yX1_lackAt wsX1_lackAt) := goodIn_app (goodIn_of _ (by decide +kernel)) ggX5_play_X1_lackAt
set_option maxRecDepth 20000 in
theorem ggX5_play_X5_exchange : GoodIn wsX5_play wsX5_exchange := goodIn_r _ [24, 2, 1, 25, 26, 27, 28, 29, 30, 31, 32, 33, 34, 35, 36, 37, 38, 39, 40, 41, 42, 43, 44, 45, 46, 47, 48, 49, 50, 51, 52, 53, 54, 55, 56, 57, 58, 59, 60, 61, 62, 63, 64, 65, 66, 67, 68, 69, 70, 71, 72, 73, 74, 75, 76, 77, 78, 79, 80, 81, 82, 83, 84, 85, 86, 87, 88, 89, 90, 91, 92, 93, 94, 95, 96, 97, 98, 99, 100, 101, 102, 103, 104, 105, 106, 107, 108, 109, 110, 111, 112, 113, 114, 115, 116, 117, 118, 119, 120, 121, 122, 123, 124, 125, 11, 126, 127, 128, 129, 130, 131, 132, 133, 134, 135, 136, 137, 138, 139, 140, 141, 142, 143, 144, 145, 146, 147, 148, 149, 150, 151, 152, 153, 154, 155, 156, 157, 18, 19, 158, 159, 160, 161, 162, 163, 164, 165, 166, 167, 168, 169, 170, 171, 172, 173, 174, 175, 176, 185, 186, 187, 188, 189, 190, 191, 192, 177, 178, 179, 180, 181, 182, 183, 184, 193, 194, 195, 196, 197, 198, 199, 200] (by decide +kernel) (by decide +kernel)
set_option maxRecDepth 20000 in
theorem gX5_play_X5_exchange : GoodIn wsX5_play (wsV RX5 106 RX5 yX5_exchange wsX5_exchange) := goodIn_app (goodIn_of _ (by decide +kernel)) ggX5_play_X5_exchange
theorem dX5_play_0 : decode cX5_play 0 = .ok (.iload_n 3, 1) := by decide +kernel
theorem dX5_play_1 : decode cX5_play 1 = .ok (.iconst 1, 1) := by decide +kernel
theorem dX5_play_2 : decode cX5_play 2 = .ok (.if_icmp .lt 10, 3) := by decide +kernel
theorem dX5_play_5 : decode cX5_play 5 = .ok (.iload_n 3, 1) := by decide +kernel
theorem dX5_play_6 : decode cX5_play 6 = .ok (.sipush 300, 3) := by decide +kernel
theorem dX5_play_9 : decode cX5_play 9 = .ok (.if_icmp .le 5, 3) := by decide +kernel
theorem dX5_play_12 : decode cX5_play 12 = .ok (.iconst (-1), 1) := by decide +kernel
theorem dX5_play_13 : decode cX5_play 13 = .ok (.ireturn, 1) := by decide +kernel
theorem dX5_play_14 : decode cX5_play 14 = .ok (.aload_n 0, 1) := by decide +kernel
theorem dX5_play_15 : decode cX5_play 15 = .ok (.getfield 26, 3) := by decide +kernel
theorem dX5_play_18 : decode cX5_play 18 = .ok (.invokevirtual 110, 3) := by decide +kernel
theorem dX5_play_21 : decode cX5_play 21 = .ok (.ifCond .ne 6, 3) := by decide +kernel
theorem dX5_play_24 : decode cX5_play 24 = .ok (.bipush (-3), 2) := by decide +kernel
theorem dX5_play_26 : decode cX5_play 26 = .ok (.ireturn, 1) := by decide +kernel
theorem dX5_play_27 : decode cX5_play 27 = .ok (.lload_n 1, 1) := by decide +kernel
theorem dX5_play_28 : decode cX5_play 28 = .ok (.lstore 4, 2) := by decide +kernel
theorem dX5_play_30 : decode cX5_play 30 = .ok (.iconst 0, 1) := by decide +kernel
theorem dX5_play_31 : decode cX5_play 31 = .ok (.istore 6, 2) := by decide +kernel
theorem dX5_play_33 : decode cX5_play 33 = .ok (.iconst 0, 1) := by decide +kernel
theorem dX5_play_34 : decode cX5_play 34 = .ok (.istore 7, 2) := by decide +kernel
theorem dX5_play_36 : decode cX5_play 36 = .ok (.iload 7, 2) := by decide +kernel
theorem dX5_play_38 : decode cX5_play 38 = .ok (.iload_n 3, 1) := by decide +kernel
theorem dX5_play_39 : decode cX5_play 39 = .ok (.if_icmp .ge 124, 3) := by decide +kernel
theorem dX5_play_42 : decode cX5_play 42 = .ok (.aload_n 0, 1) := by decide +kernel
theorem dX5_play_43 : decode cX5_play 43 = .ok (.getfield 19, 3) := by decide +kernel
theorem dX5_play_46 : decode cX5_play 46 = .ok (.getfield 80, 3) := by decide +kernel
theorem dX5_play_49 : decode cX5_play 49 = .ok (.ifCond .le 114, 3) := by decide +kernel
theorem dX5_play_52 : decode cX5_play 52 = .ok (.aload_n 0, 1) := by decide +kernel
theorem dX5_play_53 : decode cX5_play 53 = .ok (.getfield 26, 3) := by decide +kernel
theorem dX5_play_56 : decode cX5_play 56 = .ok (.getfield 100, 3) := by decide +kernel
theorem dX5_play_59 : decode cX5_play 59 = .ok (.ifCond .le 104, 3) := by decide +kernel
theorem dX5_play_62 : decode cX5_play 62 = .ok (.lload 4, 2) := by decide +kernel
theorem dX5_play_64 : decode cX5_play 64 = .ok (.ldc2_w 114, 3) := by decide +kernel
theorem dX5_play_67 : decode cX5_play 67 = .ok (.lmul, 1) := by decide +kernel
theorem dX5_play_68 : decode cX5_play 68 = .ok (.ldc2_w 116, 3) := by decide +kernel
theorem dX5_play_71 : decode cX5_play 71 = .ok (.ladd, 1) := by decide +kernel
theorem dX5_play_72 : decode cX5_play 72 = .ok (.lstore 4, 2) := by decide +kernel
theorem dX5_play_74 : decode cX5_play 74 = .ok (.lload 4, 2) := by decide +kernel
theorem dX5_play_76 : decode cX5_play 76 = .ok (.bipush 32, 2) := by decide +kernel
theorem dX5_play_78 : decode cX5_play 78 = .ok (.lushr, 1) := by decide +kernel
theorem dX5_play_79 : decode cX5_play 79 = .ok (.l2i, 1) := by decide +kernel
theorem dX5_play_80 : decode cX5_play 80 = .ok (.ldc 118, 2) := by decide +kernel
theorem dX5_play_82 : decode cX5_play 82 = .ok (.iand, 1) := by decide +kernel
theorem dX5_play_83 : decode cX5_play 83 = .ok (.istore 8, 2) := by decide +kernel
theorem dX5_play_85 : decode cX5_play 85 = .ok (.aload_n 0, 1) := by decide +kernel
theorem dX5_play_86 : decode cX5_play 86 = .ok (.getfield 26, 3) := by decide +kernel
theorem dX5_play_89 : decode cX5_play 89 = .ok (.iload 8, 2) := by decide +kernel
theorem dX5_play_91 : decode cX5_play 91 = .ok (.bipush 16, 2) := by decide +kernel
theorem dX5_play_93 : decode cX5_play 93 = .ok (.idiv, 1) := by decide +kernel
theorem dX5_play_94 : decode cX5_play 94 = .ok (.aload_n 0, 1) := by decide +kernel
theorem dX5_play_95 : decode cX5_play 95 = .ok (.getfield 26, 3) := by decide +kernel
theorem dX5_play_98 : decode cX5_play 98 = .ok (.getfield 100, 3) := by decide +kernel
theorem dX5_play_101 : decode cX5_play 101 = .ok (.irem, 1) := by decide +kernel
theorem dX5_play_102 : decode cX5_play 102 = .ok (.invokevirtual 119, 3) := by decide +kernel
theorem dX5_play_105 : decode cX5_play 105 = .ok (.istore 9, 2) := by decide +kernel
theorem dX5_play_107 : decode cX5_play 107 = .ok (.iload 8, 2) := by decide +kernel
theorem dX5_play_109 : decode cX5_play 109 = .ok (.sipush 4096, 3) := by decide +kernel
theorem dX5_play_112 : decode cX5_play 112 = .ok (.idiv, 1) := by decide +kernel
theorem dX5_play_113 : decode cX5_play 113 = .ok (.iconst 2, 1) := by decide +kernel
theorem dX5_play_114 : decode cX5_play 114 = .ok (.irem, 1) := by decide +kernel
theorem dX5_play_115 : decode cX5_play 115 = .ok (.iconst 1, 1) := by decide +kernel
theorem dX5_play_116 : decode cX5_play 116 = .ok (.if_icmp .ne 13, 3) := by decide +kernel
theorem dX5_play_119 : decode cX5_play 119 = .ok (.iload 9, 2) := by decide +kernel
theorem dX5_play_121 : decode cX5_play 121 = .ok (.iconst 4, 1) := by decide +kernel
theorem dX5_play_122 : decode cX5_play 122 = .ok (.if_icmp .lt 7, 3) := by decide +kernel
theorem dX5_play_125 : decode cX5_play 125 = .ok (.iconst 1, 1) := by decide +kernel
theorem dX5_play_126 : decode cX5_play 126 = .ok (.goto 4, 3) := by decide +kernel
theorem dX5_play_129 : decode cX5_play 129 = .ok (.iconst 0, 1) := by decide +kernel
theorem dX5_play_130 : decode cX5_play 130 = .ok (.istore 10, 2) := by decide +kernel
theorem dX5_play_132 : decode cX5_play 132 = .ok (.aload_n 0, 1) := by decide +kernel
theorem dX5_play_133 : decode cX5_play 133 = .ok (.iload 8, 2) := by decide +kernel
theorem dX5_play_135 : decode cX5_play 135 = .ok (.aload_n 0, 1) := by decide +kernel
theorem dX5_play_136 : decode cX5_play 136 = .ok (.getfield 19, 3) := by decide +kernel
theorem dX5_play_139 : decode cX5_play 139 = .ok (.getfield 80, 3) := by decide +kernel
theorem dX5_play_142 : decode cX5_play 142 = .ok (.irem, 1) := by decide +kernel
theorem dX5_play_143 : decode cX5_play 143 = .ok (.iload 9, 2) := by decide +kernel
theorem dX5_play_145 : decode cX5_play 145 = .ok (.iload 10, 2) := by decide +kernel
theorem dX5_play_147 : decode cX5_play 147 = .ok (.invokevirtual 106, 3) := by decide +kernel
theorem dX5_play_150 : decode cX5_play 150 = .ok (.iconst 1, 1) := by decide +kernel
theorem dX5_play_151 : decode cX5_play 151 = .ok (.if_icmp .ne 6, 3) := by decide +kernel
theorem dX5_play_154 : decode cX5_play 154 = .ok (.iinc 6 1, 3) := by decide +kernel
theorem dX5_play_157 : decode cX5_play 157 = .ok (.iinc 7 1, 3) := by decide +kernel
theorem dX5_play_160 : decode cX5_play 160 = .ok (.goto (-124), 3) := by decide +kernel
theorem dX5_play_163 : decode cX5_play 163 = .ok (.iload 6, 2) := by decide +kernel
theorem dX5_play_165 : decode cX5_play 165 = .ok (.ireturn, 1) := by decide +kernel
set_option maxRecDepth 20000 in
theorem ggX5_missing_X1_lackAt : GoodIn wsX5_missing wsX1_lackAt := goodIn_r _ [6, 7, 8, 15, 16, 17, 18, 19, 20, 21, 22] (by decide +kernel) (by decide +kernel)
set_option maxRecDepth 20000 in
theorem gX5_missing_X1_lackAt : GoodIn wsX5_missing (wsV RX5 119 RX1 yX1_lackAt wsX1_lackAt) := goodIn_app (goodIn_of _ (by decide +kernel)) ggX5_missing_X1_lackAt
theorem dX5_missing_0 : decode cX5_missing 0 = .ok (.aload_n 0, 1) := by decide +kernel
theorem dX5_missing_1 : decode cX5_missing 1 = .ok (.getfield 26, 3) := by decide +kernel
theorem dX5_missing_4 : decode cX5_missing 4 = .ok (.iload_n 1, 1) := by decide +kernel
theorem dX5_missing_5 : decode cX5_missing 5 = .ok (.invokevirtual 119, 3) := by decide +kernel
theorem dX5_missing_8 : decode cX5_missing 8 = .ok (.ireturn, 1) := by decide +kernel
set_option maxRecDepth 20000 in
theorem ggX5_joined_X1_isWhole : GoodIn wsX5_joined wsX1_isWhole := goodIn_r _ [6, 7, 8, 9, 10, 11, 5, 12, 13, 14, 15, 16, 17, 18, 19, 20, 21, 22, 29, 30, 31, 32, 33, 34, 35, 36, 37, 38] (by decide +kernel) (by decide +kernel)
set_option maxRecDepth 20000 in
theorem gX5_joined_X1_isWhole : GoodIn wsX5_joined (wsV RX5 123 RX1 yX1_isWhole wsX1_isWhole) := goodIn_app (goodIn_of _ (by decide +kernel)) ggX5_joined_X1_isWhole
theorem dX5_joined_0 : decode cX5_joined 0 = .ok (.aload_n 0, 1) := by decide +kernel
theorem dX5_joined_1 : decode cX5_joined 1 = .ok (.getfield 26, 3) := by decide +kernel
theorem dX5_joined_4 : decode cX5_joined 4 = .ok (.invokevirtual 123, 3) := by decide +kernel
theorem dX5_joined_7 : decode cX5_joined 7 = .ok (.ifCond .eq 7, 3) := by decide +kernel
theorem dX5_joined_10 : decode cX5_joined 10 = .ok (.iconst 1, 1) := by decide +kernel
theorem dX5_joined_11 : decode cX5_joined 11 = .ok (.goto 4, 3) := by decide +kernel
theorem dX5_joined_14 : decode cX5_joined 14 = .ok (.iconst 0, 1) := by decide +kernel
theorem dX5_joined_15 : decode cX5_joined 15 = .ok (.ireturn, 1) := by decide +kernel
set_option maxRecDepth 20000 in
theorem ggX5_held_X4_valueOf : GoodIn wsX5_held wsX4_valueOf := goodIn_r _ [7, 8, 9, 10, 6, 11, 26, 27] (by decide +kernel) (by decide +kernel)
set_option maxRecDepth 20000 in
theorem gX5_held_X4_valueOf : GoodIn wsX5_held (wsV RX5 129 RX4 yX4_valueOf wsX4_valueOf) := goodIn_app (goodIn_of _ (by decide +kernel)) ggX5_held_X4_valueOf
theorem dX5_held_0 : decode cX5_held 0 = .ok (.aload_n 0, 1) := by decide +kernel
theorem dX5_held_1 : decode cX5_held 1 = .ok (.getfield 26, 3) := by decide +kernel
theorem dX5_held_4 : decode cX5_held 4 = .ok (.getfield 126, 3) := by decide +kernel
theorem dX5_held_7 : decode cX5_held 7 = .ok (.iload_n 1, 1) := by decide +kernel
theorem dX5_held_8 : decode cX5_held 8 = .ok (.invokevirtual 129, 3) := by decide +kernel
theorem dX5_held_11 : decode cX5_held 11 = .ok (.lreturn, 1) := by decide +kernel
set_option maxRecDepth 20000 in
theorem ggX5_mine_X4_digestOf : GoodIn wsX5_mine wsX4_digestOf := goodIn_r _ [7, 8, 9, 10, 6, 11, 26, 27] (by decide +kernel) (by decide +kernel)
set_option maxRecDepth 20000 in
theorem gX5_mine_X4_digestOf : GoodIn wsX5_mine (wsV RX5 73 RX4 yX4_digestOf wsX4_digestOf) := goodIn_app (goodIn_of _ (by decide +kernel)) ggX5_mine_X4_digestOf
theorem dX5_mine_0 : decode cX5_mine 0 = .ok (.aload_n 0, 1) := by decide +kernel
theorem dX5_mine_1 : decode cX5_mine 1 = .ok (.getfield 26, 3) := by decide +kernel
theorem dX5_mine_4 : decode cX5_mine 4 = .ok (.getfield 126, 3) := by decide +kernel
theorem dX5_mine_7 : decode cX5_mine 7 = .ok (.iload_n 1, 1) := by decide +kernel
theorem dX5_mine_8 : decode cX5_mine 8 = .ok (.invokevirtual 73, 3) := by decide +kernel
theorem dX5_mine_11 : decode cX5_mine 11 = .ok (.lreturn, 1) := by decide +kernel
set_option maxRecDepth 20000 in
theorem ggX5_rot_X4_isPath : GoodIn wsX5_rot wsX4_isPath := goodIn_r _ [6] (by decide +kernel) (by decide +kernel)
set_option maxRecDepth 20000 in
theorem gX5_rot_X4_isPath : GoodIn wsX5_rot (va_wsS RX5 48 yX4_isPath wsX4_isPath) := goodIn_app (goodIn_of _ (by decide +kernel)) ggX5_rot_X4_isPath
set_option maxRecDepth 20000 in
theorem ggX5_rot_X1_spoil : GoodIn wsX5_rot wsX1_spoil := goodIn_r _ [11, 12, 13, 14, 15, 5, 16, 17, 18, 4, 6, 19, 20, 21, 22, 23, 24, 25, 26, 27, 28, 29, 30, 31, 32, 33, 34, 35, 36, 37, 38, 39, 40, 10, 41, 42, 43, 44, 45, 46, 47, 48, 49, 50, 51, 52, 53, 54, 55, 56, 57, 64, 65, 66, 67, 68, 69, 70, 71, 72, 73] (by decide +kernel) (by decide +kernel)
set_option maxRecDepth 20000 in
theorem gX5_rot_X1_spoil : GoodIn wsX5_rot (wsV RX5 132 RX1 yX1_spoil wsX1_spoil) := goodIn_app (goodIn_of _ (by decide +kernel)) ggX5_rot_X1_spoil
theorem dX5_rot_0 : decode cX5_rot 0 = .ok (.iload_n 1, 1) := by decide +kernel
theorem dX5_rot_1 : decode cX5_rot 1 = .ok (.invokestatic 48, 3) := by decide +kernel
theorem dX5_rot_4 : decode cX5_rot 4 = .ok (.ifCond .ne 5, 3) := by decide +kernel
theorem dX5_rot_7 : decode cX5_rot 7 = .ok (.iconst (-1), 1) := by decide +kernel
theorem dX5_rot_8 : decode cX5_rot 8 = .ok (.ireturn, 1) := by decide +kernel
theorem dX5_rot_9 : decode cX5_rot 9 = .ok (.aload_n 0, 1) := by decide +kernel
theorem dX5_rot_10 : decode cX5_rot 10 = .ok (.getfield 26, 3) := by decide +kernel
theorem dX5_rot_13 : decode cX5_rot 13 = .ok (.iload_n 1, 1) := by decide +kernel
theorem dX5_rot_14 : decode cX5_rot 14 = .ok (.lload_n 2, 1) := by decide +kernel
theorem dX5_rot_15 : decode cX5_rot 15 = .ok (.invokevirtual 132, 3) := by decide +kernel
theorem dX5_rot_18 : decode cX5_rot 18 = .ok (.aload_n 0, 1) := by decide +kernel
theorem dX5_rot_19 : decode cX5_rot 19 = .ok (.getfield 26, 3) := by decide +kernel
theorem dX5_rot_22 : decode cX5_rot 22 = .ok (.getfield 100, 3) := by decide +kernel
theorem dX5_rot_25 : decode cX5_rot 25 = .ok (.ireturn, 1) := by decide +kernel
set_option maxRecDepth 20000 in
theorem ggX5_cut_X1_hasGoal : GoodIn wsX5_cut wsX1_hasGoal := goodIn_r _ [7, 8, 49, 50, 51, 52, 53, 54, 55, 56] (by decide +kernel) (by decide +kernel)
set_option maxRecDepth 20000 in
theorem gX5_cut_X1_hasGoal : GoodIn wsX5_cut (wsV RX5 110 RX1 yX1_hasGoal wsX1_hasGoal) := goodIn_app (goodIn_of _ (by decide +kernel)) ggX5_cut_X1_hasGoal
set_option maxRecDepth 20000 in
theorem ggX5_cut_X1_forgetBelowRoot : GoodIn wsX5_cut wsX1_forgetBelowRoot := goodIn_r _ [12, 13, 14, 15, 6, 16, 17, 18, 19, 20, 21, 22, 23, 24, 25, 26, 27, 28, 29, 30, 31, 32, 33, 34, 35, 36, 37, 38, 39, 40, 41, 42, 49, 50, 51, 52, 53, 54, 55, 56, 57, 58] (by decide +kernel) (by decide +kernel)
set_option maxRecDepth 20000 in
theorem gX5_cut_X1_forgetBelowRoot : GoodIn wsX5_cut (wsV RX5 136 RX1 yX1_forgetBelowRoot wsX1_forgetBelowRoot) := goodIn_app (goodIn_of _ (by decide +kernel)) ggX5_cut_X1_forgetBelowRoot
theorem dX5_cut_0 : decode cX5_cut 0 = .ok (.aload_n 0, 1) := by decide +kernel
theorem dX5_cut_1 : decode cX5_cut 1 = .ok (.getfield 26, 3) := by decide +kernel
theorem dX5_cut_4 : decode cX5_cut 4 = .ok (.invokevirtual 110, 3) := by decide +kernel
theorem dX5_cut_7 : decode cX5_cut 7 = .ok (.ifCond .ne 6, 3) := by decide +kernel
theorem dX5_cut_10 : decode cX5_cut 10 = .ok (.bipush (-3), 2) := by decide +kernel
theorem dX5_cut_12 : decode cX5_cut 12 = .ok (.ireturn, 1) := by decide +kernel
theorem dX5_cut_13 : decode cX5_cut 13 = .ok (.aload_n 0, 1) := by decide +kernel
theorem dX5_cut_14 : decode cX5_cut 14 = .ok (.getfield 26, 3) := by decide +kernel
theorem dX5_cut_17 : decode cX5_cut 17 = .ok (.invokevirtual 136, 3) := by decide +kernel
theorem dX5_cut_20 : decode cX5_cut 20 = .ok (.aload_n 0, 1) := by decide +kernel
theorem dX5_cut_21 : decode cX5_cut 21 = .ok (.getfield 26, 3) := by decide +kernel
theorem dX5_cut_24 : decode cX5_cut 24 = .ok (.getfield 100, 3) := by decide +kernel
theorem dX5_cut_27 : decode cX5_cut 27 = .ok (.ireturn, 1) := by decide +kernel
set_option maxRecDepth 20000 in
theorem ggX5_count_X1_hasGoal : GoodIn wsX5_count wsX1_hasGoal := goodIn_r _ [16, 17, 55, 56, 57, 58, 59, 60, 61, 62] (by decide +kernel) (by decide +kernel)
set_option maxRecDepth 20000 in
theorem gX5_count_X1_hasGoal : GoodIn wsX5_count (wsV RX5 110 RX1 yX1_hasGoal wsX1_hasGoal) := goodIn_app (goodIn_of _ (by decide +kernel)) ggX5_count_X1_hasGoal
set_option maxRecDepth 20000 in
theorem ggX5_count_X4_filledBelow : GoodIn wsX5_count wsX4_filledBelow := goodIn_r _ [22, 23, 24, 25, 21, 26, 27, 28, 29, 30, 31, 32, 63, 64] (by decide +kernel) (by decide +kernel)
set_option maxRecDepth 20000 in
theorem gX5_count_X4_filledBelow : GoodIn wsX5_count (wsV RX5 145 RX4 yX4_filledBelow wsX4_filledBelow) := goodIn_app (goodIn_of _ (by decide +kernel)) ggX5_count_X4_filledBelow
set_option maxRecDepth 20000 in
theorem ggX5_count_X1_knownSize : GoodIn wsX5_count wsX1_knownSize := goodIn_r _ [36, 37, 55, 56, 57, 58, 59, 60, 61, 62] (by decide +kernel) (by decide +kernel)
set_option maxRecDepth 20000 in
theorem gX5_count_X1_knownSize : GoodIn wsX5_count (wsV RX5 148 RX1 yX1_knownSize wsX1_knownSize) := goodIn_app (goodIn_of _ (by decide +kernel)) ggX5_count_X1_knownSize
theorem dX5_count_0 : decode cX5_count 0 = .ok (.iload_n 1, 1) := by decide +kernel
theorem dX5_count_1 : decode cX5_count 1 = .ok (.tableswitch 138 0 8 #[51, 59, 67, 89, 97, 102, 110, 118, 130], 51) := by decide +kernel
theorem dX5_count_52 : decode cX5_count 52 = .ok (.aload_n 0, 1) := by decide +kernel
theorem dX5_count_53 : decode cX5_count 53 = .ok (.getfield 10, 3) := by decide +kernel
theorem dX5_count_56 : decode cX5_count 56 = .ok (.getfield 56, 3) := by decide +kernel
theorem dX5_count_59 : decode cX5_count 59 = .ok (.ireturn, 1) := by decide +kernel
theorem dX5_count_60 : decode cX5_count 60 = .ok (.aload_n 0, 1) := by decide +kernel
theorem dX5_count_61 : decode cX5_count 61 = .ok (.getfield 19, 3) := by decide +kernel
theorem dX5_count_64 : decode cX5_count 64 = .ok (.getfield 80, 3) := by decide +kernel
theorem dX5_count_67 : decode cX5_count 67 = .ok (.ireturn, 1) := by decide +kernel
theorem dX5_count_68 : decode cX5_count 68 = .ok (.aload_n 0, 1) := by decide +kernel
theorem dX5_count_69 : decode cX5_count 69 = .ok (.getfield 26, 3) := by decide +kernel
theorem dX5_count_72 : decode cX5_count 72 = .ok (.invokevirtual 110, 3) := by decide +kernel
theorem dX5_count_75 : decode cX5_count 75 = .ok (.ifCond .eq 13, 3) := by decide +kernel
theorem dX5_count_78 : decode cX5_count 78 = .ok (.aload_n 0, 1) := by decide +kernel
theorem dX5_count_79 : decode cX5_count 79 = .ok (.getfield 26, 3) := by decide +kernel
theorem dX5_count_82 : decode cX5_count 82 = .ok (.getfield 139, 3) := by decide +kernel
theorem dX5_count_85 : decode cX5_count 85 = .ok (.goto 4, 3) := by decide +kernel
theorem dX5_count_88 : decode cX5_count 88 = .ok (.iconst (-1), 1) := by decide +kernel
theorem dX5_count_89 : decode cX5_count 89 = .ok (.ireturn, 1) := by decide +kernel
theorem dX5_count_90 : decode cX5_count 90 = .ok (.aload_n 0, 1) := by decide +kernel
theorem dX5_count_91 : decode cX5_count 91 = .ok (.getfield 26, 3) := by decide +kernel
theorem dX5_count_94 : decode cX5_count 94 = .ok (.getfield 100, 3) := by decide +kernel
theorem dX5_count_97 : decode cX5_count 97 = .ok (.ireturn, 1) := by decide +kernel
theorem dX5_count_98 : decode cX5_count 98 = .ok (.aload_n 0, 1) := by decide +kernel
theorem dX5_count_99 : decode cX5_count 99 = .ok (.getfield 44, 3) := by decide +kernel
theorem dX5_count_102 : decode cX5_count 102 = .ok (.ireturn, 1) := by decide +kernel
theorem dX5_count_103 : decode cX5_count 103 = .ok (.aload_n 0, 1) := by decide +kernel
theorem dX5_count_104 : decode cX5_count 104 = .ok (.getfield 19, 3) := by decide +kernel
theorem dX5_count_107 : decode cX5_count 107 = .ok (.getfield 142, 3) := by decide +kernel
theorem dX5_count_110 : decode cX5_count 110 = .ok (.ireturn, 1) := by decide +kernel
theorem dX5_count_111 : decode cX5_count 111 = .ok (.aload_n 0, 1) := by decide +kernel
theorem dX5_count_112 : decode cX5_count 112 = .ok (.getfield 19, 3) := by decide +kernel
theorem dX5_count_115 : decode cX5_count 115 = .ok (.getfield 90, 3) := by decide +kernel
theorem dX5_count_118 : decode cX5_count 118 = .ok (.ireturn, 1) := by decide +kernel
theorem dX5_count_119 : decode cX5_count 119 = .ok (.aload_n 0, 1) := by decide +kernel
theorem dX5_count_120 : decode cX5_count 120 = .ok (.getfield 26, 3) := by decide +kernel
theorem dX5_count_123 : decode cX5_count 123 = .ok (.getfield 126, 3) := by decide +kernel
theorem dX5_count_126 : decode cX5_count 126 = .ok (.iconst 1, 1) := by decide +kernel
theorem dX5_count_127 : decode cX5_count 127 = .ok (.invokevirtual 145, 3) := by decide +kernel
theorem dX5_count_130 : decode cX5_count 130 = .ok (.ireturn, 1) := by decide +kernel
theorem dX5_count_131 : decode cX5_count 131 = .ok (.aload_n 0, 1) := by decide +kernel
theorem dX5_count_132 : decode cX5_count 132 = .ok (.getfield 26, 3) := by decide +kernel
theorem dX5_count_135 : decode cX5_count 135 = .ok (.invokevirtual 148, 3) := by decide +kernel
theorem dX5_count_138 : decode cX5_count 138 = .ok (.ireturn, 1) := by decide +kernel
theorem dX5_count_139 : decode cX5_count 139 = .ok (.iconst (-1), 1) := by decide +kernel
theorem dX5_count_140 : decode cX5_count 140 = .ok (.ireturn, 1) := by decide +kernel
set_option maxRecDepth 20000 in
theorem ggX5_exchange_X0_has : GoodIn wsX5_exchange wsX0_has := goodIn_r _ [14, 15, 166, 167, 168, 169, 170, 171, 172, 173] (by decide +kernel) (by decide +kernel)
set_option maxRecDepth 20000 in
theorem gX5_exchange_X0_has : GoodIn wsX5_exchange (wsV RX5 83 RX0 yX0_has wsX0_has) := goodIn_app (goodIn_of _ (by decide +kernel)) ggX5_exchange_X0_has
set_option maxRecDepth 20000 in
theorem ggX5_exchange_X0_answers : GoodIn wsX5_exchange wsX0_answers := goodIn_r _ [19, 20, 21, 22, 23, 24, 11, 12, 13, 14, 15, 166, 167, 168, 169, 170, 171, 172, 173] (by decide +kernel) (by decide +kernel)
set_option maxRecDepth 20000 in
theorem gX5_exchange_X0_answers : GoodIn wsX5_exchange (wsV RX5 152 RX0 yX0_answers wsX0_answers) := goodIn_app (goodIn_of _ (by decide +kernel)) ggX5_exchange_X0_answers
set_option maxRecDepth 20000 in
theorem ggX5_exchange_X4_isLeaf : GoodIn wsX5_exchange wsX4_isLeaf := goodIn_r _ [28] (by decide +kernel) (by decide +kernel)
set_option maxRecDepth 20000 in
theorem gX5_exchange_X4_isLeaf : GoodIn wsX5_exchange (va_wsS RX5 164 yX4_isLeaf wsX4_isLeaf) := goodIn_app (goodIn_of _ (by decide +kernel)) ggX5_exchange_X4_isLeaf
set_option maxRecDepth 20000 in
theorem ggX5_exchange_X2_fillLeaves : GoodIn wsX5_exchange wsX2_fillLeaves := goodIn_r _ [33, 34, 35, 36, 37, 38, 39, 40, 27, 41, 42, 43, 44, 45, 46, 47, 48, 49, 50, 51, 52, 53, 54, 55, 56, 57, 58, 59, 60, 61, 62, 63, 64, 32, 65, 66, 67, 68, 69, 70, 71, 72, 73, 74, 75, 76, 77, 78, 79, 80, 81, 82, 83, 84, 85, 86, 26, 28, 87, 88, 89, 90, 174, 175, 176, 177, 178, 179, 180, 181] (by decide +kernel) (by decide +kernel)
set_option maxRecDepth 20000 in
theorem gX5_exchange_X2_fillLeaves : GoodIn wsX5_exchange (wsV RX5 167 RX2 yX2_fillLeaves wsX2_fillLeaves) := goodIn_app (goodIn_of _ (by decide +kernel)) ggX5_exchange_X2_fillLeaves
set_option maxRecDepth 20000 in
theorem ggX5_exchange_X2_fillPair : GoodIn wsX5_exchange wsX2_fillPair := goodIn_r _ [94, 34, 35, 95, 96, 37, 97, 98, 99, 27, 100, 56, 43, 44, 45, 174, 175, 176, 177, 178, 179, 180, 181] (by decide +kernel) (by decide +kernel)
set_option maxRecDepth 20000 in
theorem gX5_exchange_X2_fillPair : GoodIn wsX5_exchange (wsV RX5 171 RX2 yX2_fillPair wsX2_fillPair) := goodIn_app (goodIn_of _ (by decide +kernel)) ggX5_exchange_X2_fillPair
set_option maxRecDepth 20000 in
theorem ggX5_exchange_X1_judge : GoodIn wsX5_exchange wsX1_judge := goodIn_r _ [105, 106, 107, 108, 44, 27, 45, 109, 110, 111, 32, 112, 35, 95, 96, 36, 34, 113, 58, 59, 60, 61, 97, 98, 99, 100, 56, 43, 174, 175, 176, 177, 178, 179, 158, 159, 160, 161, 162, 163, 164, 165, 180, 181] (by decide +kernel) (by decide +kernel)
set_option maxRecDepth 20000 in
theorem gX5_exchange_X1_judge : GoodIn wsX5_exchange (wsV RX5 175 RX1 yX1_judge wsX1_judge) := goodIn_app (goodIn_of _ (by decide +kernel)) ggX5_exchange_X1_judge
set_option maxRecDepth 20000 in
theorem ggX5_exchange_X1_take : GoodIn wsX5_exchange wsX1_take := goodIn_r _ [117, 118, 106, 119, 120, 121, 122, 123, 124, 125, 104, 126, 127, 107, 108, 44, 27, 45, 128, 129, 130, 131, 42, 43, 46, 47, 48, 49, 50, 51, 52, 53, 54, 55, 56, 57, 58, 59, 60, 61, 132, 39, 40, 41, 133, 134, 135, 136, 137, 138, 139, 140, 141, 142, 143, 98, 99, 100, 144, 26, 28, 174, 175, 176, 177, 178, 179, 158, 159, 160, 161, 162, 163, 164, 165, 180, 181] (by decide +kernel) (by decide +kernel)
set_option maxRecDepth 20000 in
theorem gX5_exchange_X1_take : GoodIn wsX5_exchange (wsV RX5 179 RX1 yX1_take wsX1_take) := goodIn_app (goodIn_of _ (by decide +kernel)) ggX5_exchange_X1_take
set_option maxRecDepth 20000 in
theorem ggX5_exchange_X0_blame : GoodIn wsX5_exchange wsX0_blame := goodIn_r _ [148, 149, 150, 151, 24, 11, 12, 13, 14, 15, 166, 167, 168, 169, 170, 171, 172, 173] (by decide +kernel) (by decide +kernel)
set_option maxRecDepth 20000 in
theorem gX5_exchange_X0_blame : GoodIn wsX5_exchange (wsV RX5 183 RX0 yX0_blame wsX0_blame) := goodIn_app (goodIn_of _ (by decide +kernel)) ggX5_exchange_X0_blame
theorem dX5_exchange_0 : decode cX5_exchange 0 = .ok (.aload_n 0, 1) := by decide +kernel
theorem dX5_exchange_1 : decode cX5_exchange 1 = .ok (.getfield 19, 3) := by decide +kernel
theorem dX5_exchange_4 : decode cX5_exchange 4 = .ok (.iload_n 1, 1) := by decide +kernel
theorem dX5_exchange_5 : decode cX5_exchange 5 = .ok (.invokevirtual 83, 3) := by decide +kernel
theorem dX5_exchange_8 : decode cX5_exchange 8 = .ok (.ifCond .eq 21, 3) := by decide +kernel
theorem dX5_exchange_11 : decode cX5_exchange 11 = .ok (.aload_n 0, 1) := by decide +kernel
theorem dX5_exchange_12 : decode cX5_exchange 12 = .ok (.getfield 19, 3) := by decide +kernel
theorem dX5_exchange_15 : decode cX5_exchange 15 = .ok (.iload_n 1, 1) := by decide +kernel
theorem dX5_exchange_16 : decode cX5_exchange 16 = .ok (.aload_n 0, 1) := by decide +kernel
theorem dX5_exchange_17 : decode cX5_exchange 17 = .ok (.getfield 26, 3) := by decide +kernel
theorem dX5_exchange_20 : decode cX5_exchange 20 = .ok (.getfield 139, 3) := by decide +kernel
theorem dX5_exchange_23 : decode cX5_exchange 23 = .ok (.invokevirtual 152, 3) := by decide +kernel
theorem dX5_exchange_26 : decode cX5_exchange 26 = .ok (.ifCond .ne 5, 3) := by decide +kernel
theorem dX5_exchange_29 : decode cX5_exchange 29 = .ok (.iconst 2, 1) := by decide +kernel
theorem dX5_exchange_30 : decode cX5_exchange 30 = .ok (.ireturn, 1) := by decide +kernel
theorem dX5_exchange_31 : decode cX5_exchange 31 = .ok (.aload_n 0, 1) := by decide +kernel
theorem dX5_exchange_32 : decode cX5_exchange 32 = .ok (.getfield 19, 3) := by decide +kernel
theorem dX5_exchange_35 : decode cX5_exchange 35 = .ok (.getfield 155, 3) := by decide +kernel
theorem dX5_exchange_38 : decode cX5_exchange 38 = .ok (.iload_n 1, 1) := by decide +kernel
theorem dX5_exchange_39 : decode cX5_exchange 39 = .ok (.iaload, 1) := by decide +kernel
theorem dX5_exchange_40 : decode cX5_exchange 40 = .ok (.istore 4, 2) := by decide +kernel
theorem dX5_exchange_42 : decode cX5_exchange 42 = .ok (.iload 4, 2) := by decide +kernel
theorem dX5_exchange_44 : decode cX5_exchange 44 = .ok (.iconst 3, 1) := by decide +kernel
theorem dX5_exchange_45 : decode cX5_exchange 45 = .ok (.if_icmp .ne 13, 3) := by decide +kernel
theorem dX5_exchange_48 : decode cX5_exchange 48 = .ok (.aload_n 0, 1) := by decide +kernel
theorem dX5_exchange_49 : decode cX5_exchange 49 = .ok (.getfield 26, 3) := by decide +kernel
theorem dX5_exchange_52 : decode cX5_exchange 52 = .ok (.getfield 158, 3) := by decide +kernel
theorem dX5_exchange_55 : decode cX5_exchange 55 = .ok (.goto 10, 3) := by decide +kernel
theorem dX5_exchange_58 : decode cX5_exchange 58 = .ok (.aload_n 0, 1) := by decide +kernel
theorem dX5_exchange_59 : decode cX5_exchange 59 = .ok (.getfield 26, 3) := by decide +kernel
theorem dX5_exchange_62 : decode cX5_exchange 62 = .ok (.getfield 161, 3) := by decide +kernel
theorem dX5_exchange_65 : decode cX5_exchange 65 = .ok (.astore 5, 2) := by decide +kernel
theorem dX5_exchange_67 : decode cX5_exchange 67 = .ok (.iload_n 3, 1) := by decide +kernel
theorem dX5_exchange_68 : decode cX5_exchange 68 = .ok (.ifCond .ne 10, 3) := by decide +kernel
theorem dX5_exchange_71 : decode cX5_exchange 71 = .ok (.iload_n 2, 1) := by decide +kernel
theorem dX5_exchange_72 : decode cX5_exchange 72 = .ok (.invokestatic 164, 3) := by decide +kernel
theorem dX5_exchange_75 : decode cX5_exchange 75 = .ok (.ifCond .eq 18, 3) := by decide +kernel
theorem dX5_exchange_78 : decode cX5_exchange 78 = .ok (.aload_n 0, 1) := by decide +kernel
theorem dX5_exchange_79 : decode cX5_exchange 79 = .ok (.getfield 33, 3) := by decide +kernel
theorem dX5_exchange_82 : decode cX5_exchange 82 = .ok (.iload 4, 2) := by decide +kernel
theorem dX5_exchange_84 : decode cX5_exchange 84 = .ok (.aload 5, 2) := by decide +kernel
theorem dX5_exchange_86 : decode cX5_exchange 86 = .ok (.iload_n 2, 1) := by decide +kernel
theorem dX5_exchange_87 : decode cX5_exchange 87 = .ok (.invokevirtual 167, 3) := by decide +kernel
theorem dX5_exchange_90 : decode cX5_exchange 90 = .ok (.goto 15, 3) := by decide +kernel
theorem dX5_exchange_93 : decode cX5_exchange 93 = .ok (.aload_n 0, 1) := by decide +kernel
theorem dX5_exchange_94 : decode cX5_exchange 94 = .ok (.getfield 33, 3) := by decide +kernel
theorem dX5_exchange_97 : decode cX5_exchange 97 = .ok (.iload 4, 2) := by decide +kernel
theorem dX5_exchange_99 : decode cX5_exchange 99 = .ok (.aload 5, 2) := by decide +kernel
theorem dX5_exchange_101 : decode cX5_exchange 101 = .ok (.iload_n 2, 1) := by decide +kernel
theorem dX5_exchange_102 : decode cX5_exchange 102 = .ok (.invokevirtual 171, 3) := by decide +kernel
theorem dX5_exchange_105 : decode cX5_exchange 105 = .ok (.aload_n 0, 1) := by decide +kernel
theorem dX5_exchange_106 : decode cX5_exchange 106 = .ok (.dup, 1) := by decide +kernel
theorem dX5_exchange_107 : decode cX5_exchange 107 = .ok (.getfield 44, 3) := by decide +kernel
theorem dX5_exchange_110 : decode cX5_exchange 110 = .ok (.aload_n 0, 1) := by decide +kernel
theorem dX5_exchange_111 : decode cX5_exchange 111 = .ok (.getfield 33, 3) := by decide +kernel
theorem dX5_exchange_114 : decode cX5_exchange 114 = .ok (.getfield 174, 3) := by decide +kernel
theorem dX5_exchange_117 : decode cX5_exchange 117 = .ok (.iadd, 1) := by decide +kernel
theorem dX5_exchange_118 : decode cX5_exchange 118 = .ok (.putfield 44, 3) := by decide +kernel
theorem dX5_exchange_121 : decode cX5_exchange 121 = .ok (.aload_n 0, 1) := by decide +kernel
theorem dX5_exchange_122 : decode cX5_exchange 122 = .ok (.getfield 26, 3) := by decide +kernel
theorem dX5_exchange_125 : decode cX5_exchange 125 = .ok (.aload_n 0, 1) := by decide +kernel
theorem dX5_exchange_126 : decode cX5_exchange 126 = .ok (.getfield 33, 3) := by decide +kernel
theorem dX5_exchange_129 : decode cX5_exchange 129 = .ok (.invokevirtual 175, 3) := by decide +kernel
theorem dX5_exchange_132 : decode cX5_exchange 132 = .ok (.ifCond .eq 16, 3) := by decide +kernel
theorem dX5_exchange_135 : decode cX5_exchange 135 = .ok (.aload_n 0, 1) := by decide +kernel
theorem dX5_exchange_136 : decode cX5_exchange 136 = .ok (.getfield 26, 3) := by decide +kernel
theorem dX5_exchange_139 : decode cX5_exchange 139 = .ok (.aload_n 0, 1) := by decide +kernel
theorem dX5_exchange_140 : decode cX5_exchange 140 = .ok (.getfield 33, 3) := by decide +kernel
theorem dX5_exchange_143 : decode cX5_exchange 143 = .ok (.invokevirtual 179, 3) := by decide +kernel
theorem dX5_exchange_146 : decode cX5_exchange 146 = .ok (.iconst 1, 1) := by decide +kernel
theorem dX5_exchange_147 : decode cX5_exchange 147 = .ok (.ireturn, 1) := by decide +kernel
theorem dX5_exchange_148 : decode cX5_exchange 148 = .ok (.aload_n 0, 1) := by decide +kernel
theorem dX5_exchange_149 : decode cX5_exchange 149 = .ok (.getfield 19, 3) := by decide +kernel
theorem dX5_exchange_152 : decode cX5_exchange 152 = .ok (.iload_n 1, 1) := by decide +kernel
theorem dX5_exchange_153 : decode cX5_exchange 153 = .ok (.invokevirtual 183, 3) := by decide +kernel
theorem dX5_exchange_156 : decode cX5_exchange 156 = .ok (.iconst 0, 1) := by decide +kernel
theorem dX5_exchange_157 : decode cX5_exchange 157 = .ok (.ireturn, 1) := by decide +kernel
theorem dX6_init_0 : decode cX6_init 0 = .ok (.aload_n 0, 1) := by decide +kernel
theorem dX6_init_1 : decode cX6_init 1 = .ok (.invokespecial 1, 3) := by decide +kernel
theorem dX6_init_4 : decode cX6_init 4 = .ok (.aload_n 0, 1) := by decide +kernel
theorem dX6_init_5 : decode cX6_init 5 = .ok (.sipush 201, 3) := by decide +kernel
theorem dX6_init_8 : decode cX6_init 8 = .ok (.newarray .int, 2) := by decide +kernel
theorem dX6_init_10 : decode cX6_init 10 = .ok (.putfield 7, 3) := by decide +kernel
theorem dX6_init_13 : decode cX6_init 13 = .ok (.aload_n 0, 1) := by decide +kernel
theorem dX6_init_14 : decode cX6_init 14 = .ok (.sipush 201, 3) := by decide +kernel
theorem dX6_init_17 : decode cX6_init 17 = .ok (.newarray .long, 2) := by decide +kernel
theorem dX6_init_19 : decode cX6_init 19 = .ok (.putfield 13, 3) := by decide +kernel
theorem dX6_init_22 : decode cX6_init 22 = .ok (.aload_n 0, 1) := by decide +kernel
theorem dX6_init_23 : decode cX6_init 23 = .ok (.bipush 12, 2) := by decide +kernel
theorem dX6_init_25 : decode cX6_init 25 = .ok (.newarray .int, 2) := by decide +kernel
theorem dX6_init_27 : decode cX6_init 27 = .ok (.putfield 17, 3) := by decide +kernel
theorem dX6_init_30 : decode cX6_init 30 = .ok (.aload_n 0, 1) := by decide +kernel
theorem dX6_init_31 : decode cX6_init 31 = .ok (.bipush 12, 2) := by decide +kernel
theorem dX6_init_33 : decode cX6_init 33 = .ok (.newarray .int, 2) := by decide +kernel
theorem dX6_init_35 : decode cX6_init 35 = .ok (.putfield 20, 3) := by decide +kernel
theorem dX6_init_38 : decode cX6_init 38 = .ok (.aload_n 0, 1) := by decide +kernel
theorem dX6_init_39 : decode cX6_init 39 = .ok (.bipush 12, 2) := by decide +kernel
theorem dX6_init_41 : decode cX6_init 41 = .ok (.newarray .int, 2) := by decide +kernel
theorem dX6_init_43 : decode cX6_init 43 = .ok (.putfield 23, 3) := by decide +kernel
theorem dX6_init_46 : decode cX6_init 46 = .ok (.aload_n 0, 1) := by decide +kernel
theorem dX6_init_47 : decode cX6_init 47 = .ok (.bipush 12, 2) := by decide +kernel
theorem dX6_init_49 : decode cX6_init 49 = .ok (.newarray .int, 2) := by decide +kernel
theorem dX6_init_51 : decode cX6_init 51 = .ok (.putfield 26, 3) := by decide +kernel
theorem dX6_init_54 : decode cX6_init 54 = .ok (.aload_n 0, 1) := by decide +kernel
theorem dX6_init_55 : decode cX6_init 55 = .ok (.bipush 12, 2) := by decide +kernel
theorem dX6_init_57 : decode cX6_init 57 = .ok (.newarray .int, 2) := by decide +kernel
theorem dX6_init_59 : decode cX6_init 59 = .ok (.putfield 29, 3) := by decide +kernel
theorem dX6_init_62 : decode cX6_init 62 = .ok (.aload_n 0, 1) := by decide +kernel
theorem dX6_init_63 : decode cX6_init 63 = .ok (.iconst (-1), 1) := by decide +kernel
theorem dX6_init_64 : decode cX6_init 64 = .ok (.putfield 32, 3) := by decide +kernel
theorem dX6_init_67 : decode cX6_init 67 = .ok (.aload_n 0, 1) := by decide +kernel
theorem dX6_init_68 : decode cX6_init 68 = .ok (.bipush 64, 2) := by decide +kernel
theorem dX6_init_70 : decode cX6_init 70 = .ok (.newarray .long, 2) := by decide +kernel
theorem dX6_init_72 : decode cX6_init 72 = .ok (.putfield 36, 3) := by decide +kernel
theorem dX6_init_75 : decode cX6_init 75 = .ok (.aload_n 0, 1) := by decide +kernel
theorem dX6_init_76 : decode cX6_init 76 = .ok (.sipush 128, 3) := by decide +kernel
theorem dX6_init_79 : decode cX6_init 79 = .ok (.newarray .boolean, 2) := by decide +kernel
theorem dX6_init_81 : decode cX6_init 81 = .ok (.putfield 39, 3) := by decide +kernel
theorem dX6_init_84 : decode cX6_init 84 = .ok (.aload_n 0, 1) := by decide +kernel
theorem dX6_init_85 : decode cX6_init 85 = .ok (.sipush 128, 3) := by decide +kernel
theorem dX6_init_88 : decode cX6_init 88 = .ok (.newarray .long, 2) := by decide +kernel
theorem dX6_init_90 : decode cX6_init 90 = .ok (.putfield 43, 3) := by decide +kernel
theorem dX6_init_93 : decode cX6_init 93 = .ok (.aload_n 0, 1) := by decide +kernel
theorem dX6_init_94 : decode cX6_init 94 = .ok (.bipush 64, 2) := by decide +kernel
theorem dX6_init_96 : decode cX6_init 96 = .ok (.newarray .long, 2) := by decide +kernel
theorem dX6_init_98 : decode cX6_init 98 = .ok (.putfield 46, 3) := by decide +kernel
theorem dX6_init_101 : decode cX6_init 101 = .ok (.aload_n 0, 1) := by decide +kernel
theorem dX6_init_102 : decode cX6_init 102 = .ok (.bipush 64, 2) := by decide +kernel
theorem dX6_init_104 : decode cX6_init 104 = .ok (.newarray .long, 2) := by decide +kernel
theorem dX6_init_106 : decode cX6_init 106 = .ok (.putfield 49, 3) := by decide +kernel
theorem dX6_init_109 : decode cX6_init 109 = .ok (.aload_n 0, 1) := by decide +kernel
theorem dX6_init_110 : decode cX6_init 110 = .ok (.sipush 128, 3) := by decide +kernel
theorem dX6_init_113 : decode cX6_init 113 = .ok (.newarray .long, 2) := by decide +kernel
theorem dX6_init_115 : decode cX6_init 115 = .ok (.putfield 52, 3) := by decide +kernel
theorem dX6_init_118 : decode cX6_init 118 = .ok (.aload_n 0, 1) := by decide +kernel
theorem dX6_init_119 : decode cX6_init 119 = .ok (.sipush 128, 3) := by decide +kernel
theorem dX6_init_122 : decode cX6_init 122 = .ok (.newarray .boolean, 2) := by decide +kernel
theorem dX6_init_124 : decode cX6_init 124 = .ok (.putfield 55, 3) := by decide +kernel
theorem dX6_init_127 : decode cX6_init 127 = .ok (.return_, 1) := by decide +kernel
theorem dX6_in_0 : decode cX6_in 0 = .ok (.iload_n 0, 1) := by decide +kernel
theorem dX6_in_1 : decode cX6_in 1 = .ok (.iload_n 1, 1) := by decide +kernel
theorem dX6_in_2 : decode cX6_in 2 = .ok (.if_icmp .lt 12, 3) := by decide +kernel
theorem dX6_in_5 : decode cX6_in 5 = .ok (.iload_n 0, 1) := by decide +kernel
theorem dX6_in_6 : decode cX6_in 6 = .ok (.iload_n 2, 1) := by decide +kernel
theorem dX6_in_7 : decode cX6_in 7 = .ok (.if_icmp .gt 7, 3) := by decide +kernel
theorem dX6_in_10 : decode cX6_in 10 = .ok (.iconst 1, 1) := by decide +kernel
theorem dX6_in_11 : decode cX6_in 11 = .ok (.goto 4, 3) := by decide +kernel
theorem dX6_in_14 : decode cX6_in 14 = .ok (.iconst 0, 1) := by decide +kernel
theorem dX6_in_15 : decode cX6_in 15 = .ok (.ireturn, 1) := by decide +kernel
theorem dX6_mixed_0 : decode cX6_mixed 0 = .ok (.lload_n 0, 1) := by decide +kernel
theorem dX6_mixed_1 : decode cX6_mixed 1 = .ok (.ldc2_w 58, 3) := by decide +kernel
theorem dX6_mixed_4 : decode cX6_mixed 4 = .ok (.lmul, 1) := by decide +kernel
theorem dX6_mixed_5 : decode cX6_mixed 5 = .ok (.lload_n 2, 1) := by decide +kernel
theorem dX6_mixed_6 : decode cX6_mixed 6 = .ok (.bipush 23, 2) := by decide +kernel
theorem dX6_mixed_8 : decode cX6_mixed 8 = .ok (.lshl, 1) := by decide +kernel
theorem dX6_mixed_9 : decode cX6_mixed 9 = .ok (.lload_n 2, 1) := by decide +kernel
theorem dX6_mixed_10 : decode cX6_mixed 10 = .ok (.bipush 41, 2) := by decide +kernel
theorem dX6_mixed_12 : decode cX6_mixed 12 = .ok (.lushr, 1) := by decide +kernel
theorem dX6_mixed_13 : decode cX6_mixed 13 = .ok (.lor, 1) := by decide +kernel
theorem dX6_mixed_14 : decode cX6_mixed 14 = .ok (.ladd, 1) := by decide +kernel
theorem dX6_mixed_15 : decode cX6_mixed 15 = .ok (.lstore 4, 2) := by decide +kernel
theorem dX6_mixed_17 : decode cX6_mixed 17 = .ok (.lload 4, 2) := by decide +kernel
theorem dX6_mixed_19 : decode cX6_mixed 19 = .ok (.lload 4, 2) := by decide +kernel
theorem dX6_mixed_21 : decode cX6_mixed 21 = .ok (.bipush 29, 2) := by decide +kernel
theorem dX6_mixed_23 : decode cX6_mixed 23 = .ok (.lushr, 1) := by decide +kernel
theorem dX6_mixed_24 : decode cX6_mixed 24 = .ok (.lxor, 1) := by decide +kernel
theorem dX6_mixed_25 : decode cX6_mixed 25 = .ok (.lstore 4, 2) := by decide +kernel
theorem dX6_mixed_27 : decode cX6_mixed 27 = .ok (.lload 4, 2) := by decide +kernel
theorem dX6_mixed_29 : decode cX6_mixed 29 = .ok (.ldc2_w 60, 3) := by decide +kernel
theorem dX6_mixed_32 : decode cX6_mixed 32 = .ok (.lmul, 1) := by decide +kernel
theorem dX6_mixed_33 : decode cX6_mixed 33 = .ok (.lstore 4, 2) := by decide +kernel
theorem dX6_mixed_35 : decode cX6_mixed 35 = .ok (.lload 4, 2) := by decide +kernel
theorem dX6_mixed_37 : decode cX6_mixed 37 = .ok (.lload 4, 2) := by decide +kernel
theorem dX6_mixed_39 : decode cX6_mixed 39 = .ok (.bipush 32, 2) := by decide +kernel
theorem dX6_mixed_41 : decode cX6_mixed 41 = .ok (.lushr, 1) := by decide +kernel
theorem dX6_mixed_42 : decode cX6_mixed 42 = .ok (.lxor, 1) := by decide +kernel
theorem dX6_mixed_43 : decode cX6_mixed 43 = .ok (.lreturn, 1) := by decide +kernel
set_option maxRecDepth 20000 in
theorem ggX6_build_X6_mixed : GoodIn wsX6_build wsX6_mixed := goodIn_r _ [6, 7, 8] (by decide +kernel) (by decide +kernel)
set_option maxRecDepth 20000 in
theorem gX6_build_X6_mixed : GoodIn wsX6_build (va_wsS RX6 62 yX6_mixed wsX6_mixed) := goodIn_app (goodIn_of _ (by decide +kernel)) ggX6_build_X6_mixed
theorem dX6_build_0 : decode cX6_build 0 = .ok (.iconst 0, 1) := by decide +kernel
theorem dX6_build_1 : decode cX6_build 1 = .ok (.istore_n 2, 1) := by decide +kernel
theorem dX6_build_2 : decode cX6_build 2 = .ok (.iload_n 2, 1) := by decide +kernel
theorem dX6_build_3 : decode cX6_build 3 = .ok (.bipush 64, 2) := by decide +kernel
theorem dX6_build_5 : decode cX6_build 5 = .ok (.if_icmp .ge 62, 3) := by decide +kernel
theorem dX6_build_8 : decode cX6_build 8 = .ok (.aload_n 0, 1) := by decide +kernel
theorem dX6_build_9 : decode cX6_build 9 = .ok (.getfield 55, 3) := by decide +kernel
theorem dX6_build_12 : decode cX6_build 12 = .ok (.bipush 64, 2) := by decide +kernel
theorem dX6_build_14 : decode cX6_build 14 = .ok (.iload_n 2, 1) := by decide +kernel
theorem dX6_build_15 : decode cX6_build 15 = .ok (.iadd, 1) := by decide +kernel
theorem dX6_build_16 : decode cX6_build 16 = .ok (.aload_n 1, 1) := by decide +kernel
theorem dX6_build_17 : decode cX6_build 17 = .ok (.iload_n 2, 1) := by decide +kernel
theorem dX6_build_18 : decode cX6_build 18 = .ok (.laload, 1) := by decide +kernel
theorem dX6_build_19 : decode cX6_build 19 = .ok (.lconst 0, 1) := by decide +kernel
theorem dX6_build_20 : decode cX6_build 20 = .ok (.lcmp, 1) := by decide +kernel
theorem dX6_build_21 : decode cX6_build 21 = .ok (.ifCond .ne 7, 3) := by decide +kernel
theorem dX6_build_24 : decode cX6_build 24 = .ok (.iconst 1, 1) := by decide +kernel
theorem dX6_build_25 : decode cX6_build 25 = .ok (.goto 4, 3) := by decide +kernel
theorem dX6_build_28 : decode cX6_build 28 = .ok (.iconst 0, 1) := by decide +kernel
theorem dX6_build_29 : decode cX6_build 29 = .ok (.bastore, 1) := by decide +kernel
theorem dX6_build_30 : decode cX6_build 30 = .ok (.aload_n 0, 1) := by decide +kernel
theorem dX6_build_31 : decode cX6_build 31 = .ok (.getfield 52, 3) := by decide +kernel
theorem dX6_build_34 : decode cX6_build 34 = .ok (.bipush 64, 2) := by decide +kernel
theorem dX6_build_36 : decode cX6_build 36 = .ok (.iload_n 2, 1) := by decide +kernel
theorem dX6_build_37 : decode cX6_build 37 = .ok (.iadd, 1) := by decide +kernel
theorem dX6_build_38 : decode cX6_build 38 = .ok (.aload_n 1, 1) := by decide +kernel
theorem dX6_build_39 : decode cX6_build 39 = .ok (.iload_n 2, 1) := by decide +kernel
theorem dX6_build_40 : decode cX6_build 40 = .ok (.laload, 1) := by decide +kernel
theorem dX6_build_41 : decode cX6_build 41 = .ok (.lconst 0, 1) := by decide +kernel
theorem dX6_build_42 : decode cX6_build 42 = .ok (.lcmp, 1) := by decide +kernel
theorem dX6_build_43 : decode cX6_build 43 = .ok (.ifCond .ne 7, 3) := by decide +kernel
theorem dX6_build_46 : decode cX6_build 46 = .ok (.lconst 0, 1) := by decide +kernel
theorem dX6_build_47 : decode cX6_build 47 = .ok (.goto 13, 3) := by decide +kernel
theorem dX6_build_50 : decode cX6_build 50 = .ok (.iload_n 2, 1) := by decide +kernel
theorem dX6_build_51 : decode cX6_build 51 = .ok (.i2l, 1) := by decide +kernel
theorem dX6_build_52 : decode cX6_build 52 = .ok (.lconst 1, 1) := by decide +kernel
theorem dX6_build_53 : decode cX6_build 53 = .ok (.ladd, 1) := by decide +kernel
theorem dX6_build_54 : decode cX6_build 54 = .ok (.aload_n 1, 1) := by decide +kernel
theorem dX6_build_55 : decode cX6_build 55 = .ok (.iload_n 2, 1) := by decide +kernel
theorem dX6_build_56 : decode cX6_build 56 = .ok (.laload, 1) := by decide +kernel
theorem dX6_build_57 : decode cX6_build 57 = .ok (.invokestatic 62, 3) := by decide +kernel
theorem dX6_build_60 : decode cX6_build 60 = .ok (.lastore, 1) := by decide +kernel
theorem dX6_build_61 : decode cX6_build 61 = .ok (.iinc 2 1, 3) := by decide +kernel
theorem dX6_build_64 : decode cX6_build 64 = .ok (.goto (-62), 3) := by decide +kernel
theorem dX6_build_67 : decode cX6_build 67 = .ok (.bipush 63, 2) := by decide +kernel
theorem dX6_build_69 : decode cX6_build 69 = .ok (.istore_n 2, 1) := by decide +kernel
theorem dX6_build_70 : decode cX6_build 70 = .ok (.iload_n 2, 1) := by decide +kernel
theorem dX6_build_71 : decode cX6_build 71 = .ok (.ifCond .le 84, 3) := by decide +kernel
theorem dX6_build_74 : decode cX6_build 74 = .ok (.aload_n 0, 1) := by decide +kernel
theorem dX6_build_75 : decode cX6_build 75 = .ok (.getfield 55, 3) := by decide +kernel
theorem dX6_build_78 : decode cX6_build 78 = .ok (.iload_n 2, 1) := by decide +kernel
theorem dX6_build_79 : decode cX6_build 79 = .ok (.aload_n 0, 1) := by decide +kernel
theorem dX6_build_80 : decode cX6_build 80 = .ok (.getfield 55, 3) := by decide +kernel
theorem dX6_build_83 : decode cX6_build 83 = .ok (.iconst 2, 1) := by decide +kernel
theorem dX6_build_84 : decode cX6_build 84 = .ok (.iload_n 2, 1) := by decide +kernel
theorem dX6_build_85 : decode cX6_build 85 = .ok (.imul, 1) := by decide +kernel
theorem dX6_build_86 : decode cX6_build 86 = .ok (.baload, 1) := by decide +kernel
theorem dX6_build_87 : decode cX6_build 87 = .ok (.ifCond .eq 20, 3) := by decide +kernel
theorem dX6_build_90 : decode cX6_build 90 = .ok (.aload_n 0, 1) := by decide +kernel
theorem dX6_build_91 : decode cX6_build 91 = .ok (.getfield 55, 3) := by decide +kernel
theorem dX6_build_94 : decode cX6_build 94 = .ok (.iconst 2, 1) := by decide +kernel
theorem dX6_build_95 : decode cX6_build 95 = .ok (.iload_n 2, 1) := by decide +kernel
theorem dX6_build_96 : decode cX6_build 96 = .ok (.imul, 1) := by decide +kernel
theorem dX6_build_97 : decode cX6_build 97 = .ok (.iconst 1, 1) := by decide +kernel
theorem dX6_build_98 : decode cX6_build 98 = .ok (.iadd, 1) := by decide +kernel
theorem dX6_build_99 : decode cX6_build 99 = .ok (.baload, 1) := by decide +kernel
theorem dX6_build_100 : decode cX6_build 100 = .ok (.ifCond .eq 7, 3) := by decide +kernel
theorem dX6_build_103 : decode cX6_build 103 = .ok (.iconst 1, 1) := by decide +kernel
theorem dX6_build_104 : decode cX6_build 104 = .ok (.goto 4, 3) := by decide +kernel
theorem dX6_build_107 : decode cX6_build 107 = .ok (.iconst 0, 1) := by decide +kernel
theorem dX6_build_108 : decode cX6_build 108 = .ok (.bastore, 1) := by decide +kernel
theorem dX6_build_109 : decode cX6_build 109 = .ok (.aload_n 0, 1) := by decide +kernel
theorem dX6_build_110 : decode cX6_build 110 = .ok (.getfield 52, 3) := by decide +kernel
theorem dX6_build_113 : decode cX6_build 113 = .ok (.iload_n 2, 1) := by decide +kernel
theorem dX6_build_114 : decode cX6_build 114 = .ok (.aload_n 0, 1) := by decide +kernel
theorem dX6_build_115 : decode cX6_build 115 = .ok (.getfield 55, 3) := by decide +kernel
theorem dX6_build_118 : decode cX6_build 118 = .ok (.iload_n 2, 1) := by decide +kernel
theorem dX6_build_119 : decode cX6_build 119 = .ok (.baload, 1) := by decide +kernel
theorem dX6_build_120 : decode cX6_build 120 = .ok (.ifCond .eq 7, 3) := by decide +kernel
theorem dX6_build_123 : decode cX6_build 123 = .ok (.lconst 0, 1) := by decide +kernel
theorem dX6_build_124 : decode cX6_build 124 = .ok (.goto 24, 3) := by decide +kernel
theorem dX6_build_127 : decode cX6_build 127 = .ok (.aload_n 0, 1) := by decide +kernel
theorem dX6_build_128 : decode cX6_build 128 = .ok (.getfield 52, 3) := by decide +kernel
theorem dX6_build_131 : decode cX6_build 131 = .ok (.iconst 2, 1) := by decide +kernel
theorem dX6_build_132 : decode cX6_build 132 = .ok (.iload_n 2, 1) := by decide +kernel
theorem dX6_build_133 : decode cX6_build 133 = .ok (.imul, 1) := by decide +kernel
theorem dX6_build_134 : decode cX6_build 134 = .ok (.laload, 1) := by decide +kernel
theorem dX6_build_135 : decode cX6_build 135 = .ok (.aload_n 0, 1) := by decide +kernel
theorem dX6_build_136 : decode cX6_build 136 = .ok (.getfield 52, 3) := by decide +kernel
theorem dX6_build_139 : decode cX6_build 139 = .ok (.iconst 2, 1) := by decide +kernel
theorem dX6_build_140 : decode cX6_build 140 = .ok (.iload_n 2, 1) := by decide +kernel
theorem dX6_build_141 : decode cX6_build 141 = .ok (.imul, 1) := by decide +kernel
theorem dX6_build_142 : decode cX6_build 142 = .ok (.iconst 1, 1) := by decide +kernel
theorem dX6_build_143 : decode cX6_build 143 = .ok (.iadd, 1) := by decide +kernel
theorem dX6_build_144 : decode cX6_build 144 = .ok (.laload, 1) := by decide +kernel
theorem dX6_build_145 : decode cX6_build 145 = .ok (.invokestatic 62, 3) := by decide +kernel
theorem dX6_build_148 : decode cX6_build 148 = .ok (.lastore, 1) := by decide +kernel
theorem dX6_build_149 : decode cX6_build 149 = .ok (.iinc 2 (-1), 3) := by decide +kernel
theorem dX6_build_152 : decode cX6_build 152 = .ok (.goto (-82), 3) := by decide +kernel
theorem dX6_build_155 : decode cX6_build 155 = .ok (.return_, 1) := by decide +kernel
theorem dX6_stateAt_0 : decode cX6_stateAt 0 = .ok (.iconst 0, 1) := by decide +kernel
theorem dX6_stateAt_1 : decode cX6_stateAt 1 = .ok (.istore_n 2, 1) := by decide +kernel
theorem dX6_stateAt_2 : decode cX6_stateAt 2 = .ok (.iload_n 2, 1) := by decide +kernel
theorem dX6_stateAt_3 : decode cX6_stateAt 3 = .ok (.bipush 64, 2) := by decide +kernel
theorem dX6_stateAt_5 : decode cX6_stateAt 5 = .ok (.if_icmp .ge 16, 3) := by decide +kernel
theorem dX6_stateAt_8 : decode cX6_stateAt 8 = .ok (.aload_n 0, 1) := by decide +kernel
theorem dX6_stateAt_9 : decode cX6_stateAt 9 = .ok (.getfield 46, 3) := by decide +kernel
theorem dX6_stateAt_12 : decode cX6_stateAt 12 = .ok (.iload_n 2, 1) := by decide +kernel
theorem dX6_stateAt_13 : decode cX6_stateAt 13 = .ok (.lconst 0, 1) := by decide +kernel
theorem dX6_stateAt_14 : decode cX6_stateAt 14 = .ok (.lastore, 1) := by decide +kernel
theorem dX6_stateAt_15 : decode cX6_stateAt 15 = .ok (.iinc 2 1, 3) := by decide +kernel
theorem dX6_stateAt_18 : decode cX6_stateAt 18 = .ok (.goto (-16), 3) := by decide +kernel
theorem dX6_stateAt_21 : decode cX6_stateAt 21 = .ok (.iconst 1, 1) := by decide +kernel
theorem dX6_stateAt_22 : decode cX6_stateAt 22 = .ok (.istore_n 2, 1) := by decide +kernel
theorem dX6_stateAt_23 : decode cX6_stateAt 23 = .ok (.iload_n 2, 1) := by decide +kernel
theorem dX6_stateAt_24 : decode cX6_stateAt 24 = .ok (.iload_n 1, 1) := by decide +kernel
theorem dX6_stateAt_25 : decode cX6_stateAt 25 = .ok (.if_icmp .gt 26, 3) := by decide +kernel
theorem dX6_stateAt_28 : decode cX6_stateAt 28 = .ok (.aload_n 0, 1) := by decide +kernel
theorem dX6_stateAt_29 : decode cX6_stateAt 29 = .ok (.getfield 46, 3) := by decide +kernel
theorem dX6_stateAt_32 : decode cX6_stateAt 32 = .ok (.aload_n 0, 1) := by decide +kernel
theorem dX6_stateAt_33 : decode cX6_stateAt 33 = .ok (.getfield 7, 3) := by decide +kernel
theorem dX6_stateAt_36 : decode cX6_stateAt 36 = .ok (.iload_n 2, 1) := by decide +kernel
theorem dX6_stateAt_37 : decode cX6_stateAt 37 = .ok (.iaload, 1) := by decide +kernel
theorem dX6_stateAt_38 : decode cX6_stateAt 38 = .ok (.aload_n 0, 1) := by decide +kernel
theorem dX6_stateAt_39 : decode cX6_stateAt 39 = .ok (.getfield 13, 3) := by decide +kernel
theorem dX6_stateAt_42 : decode cX6_stateAt 42 = .ok (.iload_n 2, 1) := by decide +kernel
theorem dX6_stateAt_43 : decode cX6_stateAt 43 = .ok (.laload, 1) := by decide +kernel
theorem dX6_stateAt_44 : decode cX6_stateAt 44 = .ok (.lastore, 1) := by decide +kernel
theorem dX6_stateAt_45 : decode cX6_stateAt 45 = .ok (.iinc 2 1, 3) := by decide +kernel
theorem dX6_stateAt_48 : decode cX6_stateAt 48 = .ok (.goto (-25), 3) := by decide +kernel
theorem dX6_stateAt_51 : decode cX6_stateAt 51 = .ok (.return_, 1) := by decide +kernel
set_option maxRecDepth 20000 in
theorem ggX6_leaf_X6_in : GoodIn wsX6_leaf wsX6_in := goodIn_r _ [7] (by decide +kernel) (by decide +kernel)
set_option maxRecDepth 20000 in
theorem gX6_leaf_X6_in : GoodIn wsX6_leaf (va_wsS RX6 66 yX6_in wsX6_in) := goodIn_app (goodIn_of _ (by decide +kernel)) ggX6_leaf_X6_in
theorem dX6_leaf_0 : decode cX6_leaf 0 = .ok (.iload_n 1, 1) := by decide +kernel
theorem dX6_leaf_1 : decode cX6_leaf 1 = .ok (.iconst 0, 1) := by decide +kernel
theorem dX6_leaf_2 : decode cX6_leaf 2 = .ok (.bipush 63, 2) := by decide +kernel
theorem dX6_leaf_4 : decode cX6_leaf 4 = .ok (.invokestatic 66, 3) := by decide +kernel
theorem dX6_leaf_7 : decode cX6_leaf 7 = .ok (.ifCond .ne 5, 3) := by decide +kernel
theorem dX6_leaf_10 : decode cX6_leaf 10 = .ok (.iconst (-1), 1) := by decide +kernel
theorem dX6_leaf_11 : decode cX6_leaf 11 = .ok (.ireturn, 1) := by decide +kernel
theorem dX6_leaf_12 : decode cX6_leaf 12 = .ok (.aload_n 0, 1) := by decide +kernel
theorem dX6_leaf_13 : decode cX6_leaf 13 = .ok (.getfield 70, 3) := by decide +kernel
theorem dX6_leaf_16 : decode cX6_leaf 16 = .ok (.sipush 200, 3) := by decide +kernel
theorem dX6_leaf_19 : decode cX6_leaf 19 = .ok (.if_icmp .ne 6, 3) := by decide +kernel
theorem dX6_leaf_22 : decode cX6_leaf 22 = .ok (.bipush (-2), 2) := by decide +kernel
theorem dX6_leaf_24 : decode cX6_leaf 24 = .ok (.ireturn, 1) := by decide +kernel
theorem dX6_leaf_25 : decode cX6_leaf 25 = .ok (.aload_n 0, 1) := by decide +kernel
theorem dX6_leaf_26 : decode cX6_leaf 26 = .ok (.dup, 1) := by decide +kernel
theorem dX6_leaf_27 : decode cX6_leaf 27 = .ok (.getfield 70, 3) := by decide +kernel
theorem dX6_leaf_30 : decode cX6_leaf 30 = .ok (.iconst 1, 1) := by decide +kernel
theorem dX6_leaf_31 : decode cX6_leaf 31 = .ok (.iadd, 1) := by decide +kernel
theorem dX6_leaf_32 : decode cX6_leaf 32 = .ok (.putfield 70, 3) := by decide +kernel
theorem dX6_leaf_35 : decode cX6_leaf 35 = .ok (.aload_n 0, 1) := by decide +kernel
theorem dX6_leaf_36 : decode cX6_leaf 36 = .ok (.getfield 7, 3) := by decide +kernel
theorem dX6_leaf_39 : decode cX6_leaf 39 = .ok (.aload_n 0, 1) := by decide +kernel
theorem dX6_leaf_40 : decode cX6_leaf 40 = .ok (.getfield 70, 3) := by decide +kernel
theorem dX6_leaf_43 : decode cX6_leaf 43 = .ok (.iload_n 1, 1) := by decide +kernel
theorem dX6_leaf_44 : decode cX6_leaf 44 = .ok (.iastore, 1) := by decide +kernel
theorem dX6_leaf_45 : decode cX6_leaf 45 = .ok (.aload_n 0, 1) := by decide +kernel
theorem dX6_leaf_46 : decode cX6_leaf 46 = .ok (.getfield 13, 3) := by decide +kernel
theorem dX6_leaf_49 : decode cX6_leaf 49 = .ok (.aload_n 0, 1) := by decide +kernel
theorem dX6_leaf_50 : decode cX6_leaf 50 = .ok (.getfield 70, 3) := by decide +kernel
theorem dX6_leaf_53 : decode cX6_leaf 53 = .ok (.lload_n 2, 1) := by decide +kernel
theorem dX6_leaf_54 : decode cX6_leaf 54 = .ok (.lastore, 1) := by decide +kernel
theorem dX6_leaf_55 : decode cX6_leaf 55 = .ok (.aload_n 0, 1) := by decide +kernel
theorem dX6_leaf_56 : decode cX6_leaf 56 = .ok (.getfield 70, 3) := by decide +kernel
theorem dX6_leaf_59 : decode cX6_leaf 59 = .ok (.ireturn, 1) := by decide +kernel
set_option maxRecDepth 20000 in
theorem ggX6_value_X6_in : GoodIn wsX6_value wsX6_in := goodIn_r _ [6] (by decide +kernel) (by decide +kernel)
set_option maxRecDepth 20000 in
theorem gX6_value_X6_in : GoodIn wsX6_value (va_wsS RX6 66 yX6_in wsX6_in) := goodIn_app (goodIn_of _ (by decide +kernel)) ggX6_value_X6_in
set_option maxRecDepth 20000 in
theorem ggX6_value_X6_stateAt : GoodIn wsX6_value wsX6_stateAt := goodIn_r _ [10, 2, 11, 12, 13, 14, 15, 16, 17, 18, 19, 20, 21, 22, 23, 24, 25, 26, 27, 28, 29, 30, 31, 32] (by decide +kernel) (by decide +kernel)
set_option maxRecDepth 20000 in
theorem gX6_value_X6_stateAt : GoodIn wsX6_value (wsV RX6 73 RX6 yX6_stateAt wsX6_stateAt) := goodIn_app (goodIn_of _ (by decide +kernel)) ggX6_value_X6_stateAt
theorem dX6_value_0 : decode cX6_value 0 = .ok (.iload_n 1, 1) := by decide +kernel
theorem dX6_value_1 : decode cX6_value 1 = .ok (.iconst 0, 1) := by decide +kernel
theorem dX6_value_2 : decode cX6_value 2 = .ok (.aload_n 0, 1) := by decide +kernel
theorem dX6_value_3 : decode cX6_value 3 = .ok (.getfield 70, 3) := by decide +kernel
theorem dX6_value_6 : decode cX6_value 6 = .ok (.invokestatic 66, 3) := by decide +kernel
theorem dX6_value_9 : decode cX6_value 9 = .ok (.ifCond .eq 13, 3) := by decide +kernel
theorem dX6_value_12 : decode cX6_value 12 = .ok (.iload_n 2, 1) := by decide +kernel
theorem dX6_value_13 : decode cX6_value 13 = .ok (.iconst 0, 1) := by decide +kernel
theorem dX6_value_14 : decode cX6_value 14 = .ok (.bipush 63, 2) := by decide +kernel
theorem dX6_value_16 : decode cX6_value 16 = .ok (.invokestatic 66, 3) := by decide +kernel
theorem dX6_value_19 : decode cX6_value 19 = .ok (.ifCond .ne 5, 3) := by decide +kernel
theorem dX6_value_22 : decode cX6_value 22 = .ok (.lconst 0, 1) := by decide +kernel
theorem dX6_value_23 : decode cX6_value 23 = .ok (.lreturn, 1) := by decide +kernel
theorem dX6_value_24 : decode cX6_value 24 = .ok (.aload_n 0, 1) := by decide +kernel
theorem dX6_value_25 : decode cX6_value 25 = .ok (.iload_n 1, 1) := by decide +kernel
theorem dX6_value_26 : decode cX6_value 26 = .ok (.invokevirtual 73, 3) := by decide +kernel
theorem dX6_value_29 : decode cX6_value 29 = .ok (.aload_n 0, 1) := by decide +kernel
theorem dX6_value_30 : decode cX6_value 30 = .ok (.getfield 46, 3) := by decide +kernel
theorem dX6_value_33 : decode cX6_value 33 = .ok (.iload_n 2, 1) := by decide +kernel
theorem dX6_value_34 : decode cX6_value 34 = .ok (.laload, 1) := by decide +kernel
theorem dX6_value_35 : decode cX6_value 35 = .ok (.lreturn, 1) := by decide +kernel
set_option maxRecDepth 20000 in
theorem ggX6_digest_X6_in : GoodIn wsX6_digest wsX6_in := goodIn_r _ [7] (by decide +kernel) (by decide +kernel)
set_option maxRecDepth 20000 in
theorem gX6_digest_X6_in : GoodIn wsX6_digest (va_wsS RX6 66 yX6_in wsX6_in) := goodIn_app (goodIn_of _ (by decide +kernel)) ggX6_digest_X6_in
set_option maxRecDepth 20000 in
theorem ggX6_digest_X6_stateAt : GoodIn wsX6_digest wsX6_stateAt := goodIn_r _ [11, 2, 12, 13, 24, 25, 26, 27, 28, 29, 30, 31, 32, 33, 34, 35, 36, 37, 38, 39, 40, 41, 42, 43] (by decide +kernel) (by decide +kernel)
set_option maxRecDepth 20000 in
theorem gX6_digest_X6_stateAt : GoodIn wsX6_digest (wsV RX6 73 RX6 yX6_stateAt wsX6_stateAt) := goodIn_app (goodIn_of _ (by decide +kernel)) ggX6_digest_X6_stateAt
set_option maxRecDepth 20000 in
theorem ggX6_digest_X6_build : GoodIn wsX6_digest wsX6_build := goodIn_r _ [17, 18, 3, 19, 20, 6, 21, 22, 23, 24, 25, 26, 27, 28, 29, 30, 31, 32, 33, 34, 35, 36, 37, 38, 39, 40, 41, 42, 43] (by decide +kernel) (by decide +kernel)
set_option maxRecDepth 20000 in
theorem gX6_digest_X6_build : GoodIn wsX6_digest (wsV RX6 77 RX6 yX6_build wsX6_build) := goodIn_app (goodIn_of _ (by decide +kernel)) ggX6_digest_X6_build
theorem dX6_digest_0 : decode cX6_digest 0 = .ok (.iload_n 1, 1) := by decide +kernel
theorem dX6_digest_1 : decode cX6_digest 1 = .ok (.iconst 0, 1) := by decide +kernel
theorem dX6_digest_2 : decode cX6_digest 2 = .ok (.aload_n 0, 1) := by decide +kernel
theorem dX6_digest_3 : decode cX6_digest 3 = .ok (.getfield 70, 3) := by decide +kernel
theorem dX6_digest_6 : decode cX6_digest 6 = .ok (.invokestatic 66, 3) := by decide +kernel
theorem dX6_digest_9 : decode cX6_digest 9 = .ok (.ifCond .eq 13, 3) := by decide +kernel
theorem dX6_digest_12 : decode cX6_digest 12 = .ok (.iload_n 2, 1) := by decide +kernel
theorem dX6_digest_13 : decode cX6_digest 13 = .ok (.iconst 1, 1) := by decide +kernel
theorem dX6_digest_14 : decode cX6_digest 14 = .ok (.bipush 127, 2) := by decide +kernel
theorem dX6_digest_16 : decode cX6_digest 16 = .ok (.invokestatic 66, 3) := by decide +kernel
theorem dX6_digest_19 : decode cX6_digest 19 = .ok (.ifCond .ne 5, 3) := by decide +kernel
theorem dX6_digest_22 : decode cX6_digest 22 = .ok (.lconst 0, 1) := by decide +kernel
theorem dX6_digest_23 : decode cX6_digest 23 = .ok (.lreturn, 1) := by decide +kernel
theorem dX6_digest_24 : decode cX6_digest 24 = .ok (.aload_n 0, 1) := by decide +kernel
theorem dX6_digest_25 : decode cX6_digest 25 = .ok (.iload_n 1, 1) := by decide +kernel
theorem dX6_digest_26 : decode cX6_digest 26 = .ok (.invokevirtual 73, 3) := by decide +kernel
theorem dX6_digest_29 : decode cX6_digest 29 = .ok (.aload_n 0, 1) := by decide +kernel
theorem dX6_digest_30 : decode cX6_digest 30 = .ok (.aload_n 0, 1) := by decide +kernel
theorem dX6_digest_31 : decode cX6_digest 31 = .ok (.getfield 46, 3) := by decide +kernel
theorem dX6_digest_34 : decode cX6_digest 34 = .ok (.invokevirtual 77, 3) := by decide +kernel
theorem dX6_digest_37 : decode cX6_digest 37 = .ok (.aload_n 0, 1) := by decide +kernel
theorem dX6_digest_38 : decode cX6_digest 38 = .ok (.getfield 52, 3) := by decide +kernel
theorem dX6_digest_41 : decode cX6_digest 41 = .ok (.iload_n 2, 1) := by decide +kernel
theorem dX6_digest_42 : decode cX6_digest 42 = .ok (.laload, 1) := by decide +kernel
theorem dX6_digest_43 : decode cX6_digest 43 = .ok (.lreturn, 1) := by decide +kernel
set_option maxRecDepth 20000 in
theorem ggX6_giver_X6_in : GoodIn wsX6_giver wsX6_in := goodIn_r _ [7] (by decide +kernel) (by decide +kernel)
set_option maxRecDepth 20000 in
theorem gX6_giver_X6_in : GoodIn wsX6_giver (va_wsS RX6 66 yX6_in wsX6_in) := goodIn_app (goodIn_of _ (by decide +kernel)) ggX6_giver_X6_in
theorem dX6_giver_0 : decode cX6_giver 0 = .ok (.iload_n 1, 1) := by decide +kernel
theorem dX6_giver_1 : decode cX6_giver 1 = .ok (.iconst 0, 1) := by decide +kernel
theorem dX6_giver_2 : decode cX6_giver 2 = .ok (.iconst 4, 1) := by decide +kernel
theorem dX6_giver_3 : decode cX6_giver 3 = .ok (.invokestatic 66, 3) := by decide +kernel
theorem dX6_giver_6 : decode cX6_giver 6 = .ok (.ifCond .eq 14, 3) := by decide +kernel
theorem dX6_giver_9 : decode cX6_giver 9 = .ok (.iload_n 2, 1) := by decide +kernel
theorem dX6_giver_10 : decode cX6_giver 10 = .ok (.iconst (-1), 1) := by decide +kernel
theorem dX6_giver_11 : decode cX6_giver 11 = .ok (.sipush 200, 3) := by decide +kernel
theorem dX6_giver_14 : decode cX6_giver 14 = .ok (.invokestatic 66, 3) := by decide +kernel
theorem dX6_giver_17 : decode cX6_giver 17 = .ok (.ifCond .ne 5, 3) := by decide +kernel
theorem dX6_giver_20 : decode cX6_giver 20 = .ok (.iconst (-1), 1) := by decide +kernel
theorem dX6_giver_21 : decode cX6_giver 21 = .ok (.ireturn, 1) := by decide +kernel
