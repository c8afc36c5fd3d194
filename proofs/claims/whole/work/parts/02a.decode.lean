theorem dX0_init_0 : decode cX0_init 0 = .ok (.aload_n 0, 1) := by decide +kernel
theorem dX0_init_1 : decode cX0_init 1 = .ok (.invokespecial 1, 3) := by decide +kernel
theorem dX0_init_4 : decode cX0_init 4 = .ok (.aload_n 0, 1) := by decide +kernel
theorem dX0_init_5 : decode cX0_init 5 = .ok (.bipush 12, 2) := by decide +kernel
theorem dX0_init_7 : decode cX0_init 7 = .ok (.newarray .int, 2) := by decide +kernel
theorem dX0_init_9 : decode cX0_init 9 = .ok (.putfield 9, 3) := by decide +kernel
theorem dX0_init_12 : decode cX0_init 12 = .ok (.aload_n 0, 1) := by decide +kernel
theorem dX0_init_13 : decode cX0_init 13 = .ok (.bipush 12, 2) := by decide +kernel
theorem dX0_init_15 : decode cX0_init 15 = .ok (.newarray .int, 2) := by decide +kernel
theorem dX0_init_17 : decode cX0_init 17 = .ok (.putfield 13, 3) := by decide +kernel
theorem dX0_init_20 : decode cX0_init 20 = .ok (.aload_n 0, 1) := by decide +kernel
theorem dX0_init_21 : decode cX0_init 21 = .ok (.bipush 12, 2) := by decide +kernel
theorem dX0_init_23 : decode cX0_init 23 = .ok (.newarray .int, 2) := by decide +kernel
theorem dX0_init_25 : decode cX0_init 25 = .ok (.putfield 16, 3) := by decide +kernel
theorem dX0_init_28 : decode cX0_init 28 = .ok (.aload_n 0, 1) := by decide +kernel
theorem dX0_init_29 : decode cX0_init 29 = .ok (.bipush 12, 2) := by decide +kernel
theorem dX0_init_31 : decode cX0_init 31 = .ok (.newarray .int, 2) := by decide +kernel
theorem dX0_init_33 : decode cX0_init 33 = .ok (.putfield 19, 3) := by decide +kernel
theorem dX0_init_36 : decode cX0_init 36 = .ok (.aload_n 0, 1) := by decide +kernel
theorem dX0_init_37 : decode cX0_init 37 = .ok (.bipush 12, 2) := by decide +kernel
theorem dX0_init_39 : decode cX0_init 39 = .ok (.newarray .int, 2) := by decide +kernel
theorem dX0_init_41 : decode cX0_init 41 = .ok (.putfield 22, 3) := by decide +kernel
theorem dX0_init_44 : decode cX0_init 44 = .ok (.aload_n 0, 1) := by decide +kernel
theorem dX0_init_45 : decode cX0_init 45 = .ok (.iconst 0, 1) := by decide +kernel
theorem dX0_init_46 : decode cX0_init 46 = .ok (.putfield 25, 3) := by decide +kernel
theorem dX0_init_49 : decode cX0_init 49 = .ok (.aload_n 0, 1) := by decide +kernel
theorem dX0_init_50 : decode cX0_init 50 = .ok (.iconst 0, 1) := by decide +kernel
theorem dX0_init_51 : decode cX0_init 51 = .ok (.putfield 29, 3) := by decide +kernel
theorem dX0_init_54 : decode cX0_init 54 = .ok (.aload_n 0, 1) := by decide +kernel
theorem dX0_init_55 : decode cX0_init 55 = .ok (.iconst 0, 1) := by decide +kernel
theorem dX0_init_56 : decode cX0_init 56 = .ok (.putfield 32, 3) := by decide +kernel
theorem dX0_init_59 : decode cX0_init 59 = .ok (.return_, 1) := by decide +kernel
theorem dX0_has_0 : decode cX0_has 0 = .ok (.iload_n 1, 1) := by decide +kernel
theorem dX0_has_1 : decode cX0_has 1 = .ok (.ifCond .lt 15, 3) := by decide +kernel
theorem dX0_has_4 : decode cX0_has 4 = .ok (.iload_n 1, 1) := by decide +kernel
theorem dX0_has_5 : decode cX0_has 5 = .ok (.aload_n 0, 1) := by decide +kernel
theorem dX0_has_6 : decode cX0_has 6 = .ok (.getfield 25, 3) := by decide +kernel
theorem dX0_has_9 : decode cX0_has 9 = .ok (.if_icmp .ge 7, 3) := by decide +kernel
theorem dX0_has_12 : decode cX0_has 12 = .ok (.iconst 1, 1) := by decide +kernel
theorem dX0_has_13 : decode cX0_has 13 = .ok (.goto 4, 3) := by decide +kernel
theorem dX0_has_16 : decode cX0_has 16 = .ok (.iconst 0, 1) := by decide +kernel
theorem dX0_has_17 : decode cX0_has 17 = .ok (.ireturn, 1) := by decide +kernel
theorem dX0_append_0 : decode cX0_append 0 = .ok (.aload_n 0, 1) := by decide +kernel
theorem dX0_append_1 : decode cX0_append 1 = .ok (.getfield 25, 3) := by decide +kernel
theorem dX0_append_4 : decode cX0_append 4 = .ok (.bipush 12, 2) := by decide +kernel
theorem dX0_append_6 : decode cX0_append 6 = .ok (.if_icmp .lt 5, 3) := by decide +kernel
theorem dX0_append_9 : decode cX0_append 9 = .ok (.iconst 0, 1) := by decide +kernel
theorem dX0_append_10 : decode cX0_append 10 = .ok (.ireturn, 1) := by decide +kernel
theorem dX0_append_11 : decode cX0_append 11 = .ok (.aload_n 0, 1) := by decide +kernel
theorem dX0_append_12 : decode cX0_append 12 = .ok (.getfield 9, 3) := by decide +kernel
theorem dX0_append_15 : decode cX0_append 15 = .ok (.aload_n 0, 1) := by decide +kernel
theorem dX0_append_16 : decode cX0_append 16 = .ok (.getfield 25, 3) := by decide +kernel
theorem dX0_append_19 : decode cX0_append 19 = .ok (.iload_n 1, 1) := by decide +kernel
theorem dX0_append_20 : decode cX0_append 20 = .ok (.iastore, 1) := by decide +kernel
theorem dX0_append_21 : decode cX0_append 21 = .ok (.aload_n 0, 1) := by decide +kernel
theorem dX0_append_22 : decode cX0_append 22 = .ok (.getfield 13, 3) := by decide +kernel
theorem dX0_append_25 : decode cX0_append 25 = .ok (.aload_n 0, 1) := by decide +kernel
theorem dX0_append_26 : decode cX0_append 26 = .ok (.getfield 25, 3) := by decide +kernel
theorem dX0_append_29 : decode cX0_append 29 = .ok (.iload_n 2, 1) := by decide +kernel
theorem dX0_append_30 : decode cX0_append 30 = .ok (.iastore, 1) := by decide +kernel
theorem dX0_append_31 : decode cX0_append 31 = .ok (.aload_n 0, 1) := by decide +kernel
theorem dX0_append_32 : decode cX0_append 32 = .ok (.dup, 1) := by decide +kernel
theorem dX0_append_33 : decode cX0_append 33 = .ok (.getfield 25, 3) := by decide +kernel
theorem dX0_append_36 : decode cX0_append 36 = .ok (.iconst 1, 1) := by decide +kernel
theorem dX0_append_37 : decode cX0_append 37 = .ok (.iadd, 1) := by decide +kernel
theorem dX0_append_38 : decode cX0_append 38 = .ok (.putfield 25, 3) := by decide +kernel
theorem dX0_append_41 : decode cX0_append 41 = .ok (.iconst 1, 1) := by decide +kernel
theorem dX0_append_42 : decode cX0_append 42 = .ok (.ireturn, 1) := by decide +kernel
set_option maxRecDepth 20000 in
theorem ggX0_answers_X0_has : GoodIn wsX0_answers wsX0_has := goodIn_r _ [9, 10, 11, 12, 13, 14, 15, 16, 17, 18] (by decide +kernel) (by decide +kernel)
set_option maxRecDepth 20000 in
theorem gX0_answers_X0_has : GoodIn wsX0_answers (wsV RX0 35 RX0 yX0_has wsX0_has) := goodIn_app (goodIn_of _ (by decide +kernel)) ggX0_answers_X0_has
theorem dX0_answers_0 : decode cX0_answers 0 = .ok (.aload_n 0, 1) := by decide +kernel
theorem dX0_answers_1 : decode cX0_answers 1 = .ok (.iload_n 1, 1) := by decide +kernel
theorem dX0_answers_2 : decode cX0_answers 2 = .ok (.invokevirtual 35, 3) := by decide +kernel
theorem dX0_answers_5 : decode cX0_answers 5 = .ok (.ifCond .ne 5, 3) := by decide +kernel
theorem dX0_answers_8 : decode cX0_answers 8 = .ok (.iconst 0, 1) := by decide +kernel
theorem dX0_answers_9 : decode cX0_answers 9 = .ok (.ireturn, 1) := by decide +kernel
theorem dX0_answers_10 : decode cX0_answers 10 = .ok (.aload_n 0, 1) := by decide +kernel
theorem dX0_answers_11 : decode cX0_answers 11 = .ok (.getfield 16, 3) := by decide +kernel
theorem dX0_answers_14 : decode cX0_answers 14 = .ok (.iload_n 1, 1) := by decide +kernel
theorem dX0_answers_15 : decode cX0_answers 15 = .ok (.dup2, 1) := by decide +kernel
theorem dX0_answers_16 : decode cX0_answers 16 = .ok (.iaload, 1) := by decide +kernel
theorem dX0_answers_17 : decode cX0_answers 17 = .ok (.iconst 1, 1) := by decide +kernel
theorem dX0_answers_18 : decode cX0_answers 18 = .ok (.iadd, 1) := by decide +kernel
theorem dX0_answers_19 : decode cX0_answers 19 = .ok (.iastore, 1) := by decide +kernel
theorem dX0_answers_20 : decode cX0_answers 20 = .ok (.aload_n 0, 1) := by decide +kernel
theorem dX0_answers_21 : decode cX0_answers 21 = .ok (.dup, 1) := by decide +kernel
theorem dX0_answers_22 : decode cX0_answers 22 = .ok (.getfield 32, 3) := by decide +kernel
theorem dX0_answers_25 : decode cX0_answers 25 = .ok (.iconst 1, 1) := by decide +kernel
theorem dX0_answers_26 : decode cX0_answers 26 = .ok (.iadd, 1) := by decide +kernel
theorem dX0_answers_27 : decode cX0_answers 27 = .ok (.putfield 32, 3) := by decide +kernel
theorem dX0_answers_30 : decode cX0_answers 30 = .ok (.aload_n 0, 1) := by decide +kernel
theorem dX0_answers_31 : decode cX0_answers 31 = .ok (.getfield 13, 3) := by decide +kernel
theorem dX0_answers_34 : decode cX0_answers 34 = .ok (.iload_n 1, 1) := by decide +kernel
theorem dX0_answers_35 : decode cX0_answers 35 = .ok (.iaload, 1) := by decide +kernel
theorem dX0_answers_36 : decode cX0_answers 36 = .ok (.iconst (-1), 1) := by decide +kernel
theorem dX0_answers_37 : decode cX0_answers 37 = .ok (.if_icmp .eq 17, 3) := by decide +kernel
theorem dX0_answers_40 : decode cX0_answers 40 = .ok (.aload_n 0, 1) := by decide +kernel
theorem dX0_answers_41 : decode cX0_answers 41 = .ok (.getfield 13, 3) := by decide +kernel
theorem dX0_answers_44 : decode cX0_answers 44 = .ok (.iload_n 1, 1) := by decide +kernel
theorem dX0_answers_45 : decode cX0_answers 45 = .ok (.iaload, 1) := by decide +kernel
theorem dX0_answers_46 : decode cX0_answers 46 = .ok (.iload_n 2, 1) := by decide +kernel
theorem dX0_answers_47 : decode cX0_answers 47 = .ok (.if_icmp .ge 7, 3) := by decide +kernel
theorem dX0_answers_50 : decode cX0_answers 50 = .ok (.iconst 1, 1) := by decide +kernel
theorem dX0_answers_51 : decode cX0_answers 51 = .ok (.goto 4, 3) := by decide +kernel
theorem dX0_answers_54 : decode cX0_answers 54 = .ok (.iconst 0, 1) := by decide +kernel
theorem dX0_answers_55 : decode cX0_answers 55 = .ok (.istore_n 3, 1) := by decide +kernel
theorem dX0_answers_56 : decode cX0_answers 56 = .ok (.aload_n 0, 1) := by decide +kernel
theorem dX0_answers_57 : decode cX0_answers 57 = .ok (.getfield 9, 3) := by decide +kernel
theorem dX0_answers_60 : decode cX0_answers 60 = .ok (.iload_n 1, 1) := by decide +kernel
theorem dX0_answers_61 : decode cX0_answers 61 = .ok (.iaload, 1) := by decide +kernel
theorem dX0_answers_62 : decode cX0_answers 62 = .ok (.iconst 4, 1) := by decide +kernel
theorem dX0_answers_63 : decode cX0_answers 63 = .ok (.if_icmp .ne 18, 3) := by decide +kernel
theorem dX0_answers_66 : decode cX0_answers 66 = .ok (.aload_n 0, 1) := by decide +kernel
theorem dX0_answers_67 : decode cX0_answers 67 = .ok (.getfield 16, 3) := by decide +kernel
theorem dX0_answers_70 : decode cX0_answers 70 = .ok (.iload_n 1, 1) := by decide +kernel
theorem dX0_answers_71 : decode cX0_answers 71 = .ok (.iaload, 1) := by decide +kernel
theorem dX0_answers_72 : decode cX0_answers 72 = .ok (.iconst 2, 1) := by decide +kernel
theorem dX0_answers_73 : decode cX0_answers 73 = .ok (.irem, 1) := by decide +kernel
theorem dX0_answers_74 : decode cX0_answers 74 = .ok (.ifCond .ne 7, 3) := by decide +kernel
theorem dX0_answers_77 : decode cX0_answers 77 = .ok (.iconst 1, 1) := by decide +kernel
theorem dX0_answers_78 : decode cX0_answers 78 = .ok (.goto 4, 3) := by decide +kernel
theorem dX0_answers_81 : decode cX0_answers 81 = .ok (.iconst 0, 1) := by decide +kernel
theorem dX0_answers_82 : decode cX0_answers 82 = .ok (.istore 4, 2) := by decide +kernel
theorem dX0_answers_84 : decode cX0_answers 84 = .ok (.iload_n 3, 1) := by decide +kernel
theorem dX0_answers_85 : decode cX0_answers 85 = .ok (.ifCond .ne 12, 3) := by decide +kernel
theorem dX0_answers_88 : decode cX0_answers 88 = .ok (.iload 4, 2) := by decide +kernel
theorem dX0_answers_90 : decode cX0_answers 90 = .ok (.ifCond .ne 7, 3) := by decide +kernel
theorem dX0_answers_93 : decode cX0_answers 93 = .ok (.iconst 1, 1) := by decide +kernel
theorem dX0_answers_94 : decode cX0_answers 94 = .ok (.goto 4, 3) := by decide +kernel
theorem dX0_answers_97 : decode cX0_answers 97 = .ok (.iconst 0, 1) := by decide +kernel
theorem dX0_answers_98 : decode cX0_answers 98 = .ok (.ireturn, 1) := by decide +kernel
set_option maxRecDepth 20000 in
theorem ggX0_blame_X0_has : GoodIn wsX0_blame wsX0_has := goodIn_r _ [8, 9, 10, 11, 12, 13, 14, 15, 16, 17] (by decide +kernel) (by decide +kernel)
set_option maxRecDepth 20000 in
theorem gX0_blame_X0_has : GoodIn wsX0_blame (wsV RX0 35 RX0 yX0_has wsX0_has) := goodIn_app (goodIn_of _ (by decide +kernel)) ggX0_blame_X0_has
theorem dX0_blame_0 : decode cX0_blame 0 = .ok (.aload_n 0, 1) := by decide +kernel
theorem dX0_blame_1 : decode cX0_blame 1 = .ok (.iload_n 1, 1) := by decide +kernel
theorem dX0_blame_2 : decode cX0_blame 2 = .ok (.invokevirtual 35, 3) := by decide +kernel
theorem dX0_blame_5 : decode cX0_blame 5 = .ok (.ifCond .ne 4, 3) := by decide +kernel
theorem dX0_blame_8 : decode cX0_blame 8 = .ok (.return_, 1) := by decide +kernel
theorem dX0_blame_9 : decode cX0_blame 9 = .ok (.aload_n 0, 1) := by decide +kernel
theorem dX0_blame_10 : decode cX0_blame 10 = .ok (.getfield 19, 3) := by decide +kernel
theorem dX0_blame_13 : decode cX0_blame 13 = .ok (.iload_n 1, 1) := by decide +kernel
theorem dX0_blame_14 : decode cX0_blame 14 = .ok (.iaload, 1) := by decide +kernel
theorem dX0_blame_15 : decode cX0_blame 15 = .ok (.ifCond .ne 32, 3) := by decide +kernel
theorem dX0_blame_18 : decode cX0_blame 18 = .ok (.aload_n 0, 1) := by decide +kernel
theorem dX0_blame_19 : decode cX0_blame 19 = .ok (.getfield 29, 3) := by decide +kernel
theorem dX0_blame_22 : decode cX0_blame 22 = .ok (.bipush 12, 2) := by decide +kernel
theorem dX0_blame_24 : decode cX0_blame 24 = .ok (.if_icmp .ge 23, 3) := by decide +kernel
theorem dX0_blame_27 : decode cX0_blame 27 = .ok (.aload_n 0, 1) := by decide +kernel
theorem dX0_blame_28 : decode cX0_blame 28 = .ok (.getfield 22, 3) := by decide +kernel
theorem dX0_blame_31 : decode cX0_blame 31 = .ok (.aload_n 0, 1) := by decide +kernel
theorem dX0_blame_32 : decode cX0_blame 32 = .ok (.getfield 29, 3) := by decide +kernel
theorem dX0_blame_35 : decode cX0_blame 35 = .ok (.iload_n 1, 1) := by decide +kernel
theorem dX0_blame_36 : decode cX0_blame 36 = .ok (.iastore, 1) := by decide +kernel
theorem dX0_blame_37 : decode cX0_blame 37 = .ok (.aload_n 0, 1) := by decide +kernel
theorem dX0_blame_38 : decode cX0_blame 38 = .ok (.dup, 1) := by decide +kernel
theorem dX0_blame_39 : decode cX0_blame 39 = .ok (.getfield 29, 3) := by decide +kernel
theorem dX0_blame_42 : decode cX0_blame 42 = .ok (.iconst 1, 1) := by decide +kernel
theorem dX0_blame_43 : decode cX0_blame 43 = .ok (.iadd, 1) := by decide +kernel
theorem dX0_blame_44 : decode cX0_blame 44 = .ok (.putfield 29, 3) := by decide +kernel
theorem dX0_blame_47 : decode cX0_blame 47 = .ok (.aload_n 0, 1) := by decide +kernel
theorem dX0_blame_48 : decode cX0_blame 48 = .ok (.getfield 19, 3) := by decide +kernel
theorem dX0_blame_51 : decode cX0_blame 51 = .ok (.iload_n 1, 1) := by decide +kernel
theorem dX0_blame_52 : decode cX0_blame 52 = .ok (.dup2, 1) := by decide +kernel
theorem dX0_blame_53 : decode cX0_blame 53 = .ok (.iaload, 1) := by decide +kernel
theorem dX0_blame_54 : decode cX0_blame 54 = .ok (.iconst 1, 1) := by decide +kernel
theorem dX0_blame_55 : decode cX0_blame 55 = .ok (.iadd, 1) := by decide +kernel
theorem dX0_blame_56 : decode cX0_blame 56 = .ok (.iastore, 1) := by decide +kernel
theorem dX0_blame_57 : decode cX0_blame 57 = .ok (.return_, 1) := by decide +kernel
set_option maxRecDepth 20000 in
theorem ggX1_init_X4_init : GoodIn wsX1_init wsX4_init := goodIn_r _ [19, 20, 2, 3, 12, 21, 22, 23, 24] (by decide +kernel) (by decide +kernel)
set_option maxRecDepth 20000 in
theorem gX1_init_X4_init_n11 : GoodIn wsX1_init (wsX4_init) := ggX1_init_X4_init
theorem dX1_init_0 : decode cX1_init 0 = .ok (.aload_n 0, 1) := by decide +kernel
theorem dX1_init_1 : decode cX1_init 1 = .ok (.invokespecial 3, 3) := by decide +kernel
theorem dX1_init_4 : decode cX1_init 4 = .ok (.aload_n 0, 1) := by decide +kernel
theorem dX1_init_5 : decode cX1_init 5 = .ok (.new 9, 3) := by decide +kernel
theorem dX1_init_8 : decode cX1_init 8 = .ok (.dup, 1) := by decide +kernel
theorem dX1_init_9 : decode cX1_init 9 = .ok (.invokespecial 11, 3) := by decide +kernel
theorem dX1_init_12 : decode cX1_init 12 = .ok (.putfield 12, 3) := by decide +kernel
theorem dX1_init_15 : decode cX1_init 15 = .ok (.aload_n 0, 1) := by decide +kernel
theorem dX1_init_16 : decode cX1_init 16 = .ok (.new 9, 3) := by decide +kernel
theorem dX1_init_19 : decode cX1_init 19 = .ok (.dup, 1) := by decide +kernel
theorem dX1_init_20 : decode cX1_init 20 = .ok (.invokespecial 11, 3) := by decide +kernel
theorem dX1_init_23 : decode cX1_init 23 = .ok (.putfield 18, 3) := by decide +kernel
theorem dX1_init_26 : decode cX1_init 26 = .ok (.aload_n 0, 1) := by decide +kernel
theorem dX1_init_27 : decode cX1_init 27 = .ok (.new 9, 3) := by decide +kernel
theorem dX1_init_30 : decode cX1_init 30 = .ok (.dup, 1) := by decide +kernel
theorem dX1_init_31 : decode cX1_init 31 = .ok (.invokespecial 11, 3) := by decide +kernel
theorem dX1_init_34 : decode cX1_init 34 = .ok (.putfield 21, 3) := by decide +kernel
theorem dX1_init_37 : decode cX1_init 37 = .ok (.aload_n 0, 1) := by decide +kernel
theorem dX1_init_38 : decode cX1_init 38 = .ok (.sipush 128, 3) := by decide +kernel
theorem dX1_init_41 : decode cX1_init 41 = .ok (.newarray .boolean, 2) := by decide +kernel
theorem dX1_init_43 : decode cX1_init 43 = .ok (.putfield 24, 3) := by decide +kernel
theorem dX1_init_46 : decode cX1_init 46 = .ok (.aload_n 0, 1) := by decide +kernel
theorem dX1_init_47 : decode cX1_init 47 = .ok (.sipush 128, 3) := by decide +kernel
theorem dX1_init_50 : decode cX1_init 50 = .ok (.newarray .long, 2) := by decide +kernel
theorem dX1_init_52 : decode cX1_init 52 = .ok (.putfield 28, 3) := by decide +kernel
theorem dX1_init_55 : decode cX1_init 55 = .ok (.aload_n 0, 1) := by decide +kernel
theorem dX1_init_56 : decode cX1_init 56 = .ok (.sipush 128, 3) := by decide +kernel
theorem dX1_init_59 : decode cX1_init 59 = .ok (.newarray .int, 2) := by decide +kernel
theorem dX1_init_61 : decode cX1_init 61 = .ok (.putfield 32, 3) := by decide +kernel
theorem dX1_init_64 : decode cX1_init 64 = .ok (.aload_n 0, 1) := by decide +kernel
theorem dX1_init_65 : decode cX1_init 65 = .ok (.iconst 0, 1) := by decide +kernel
theorem dX1_init_66 : decode cX1_init 66 = .ok (.putfield 36, 3) := by decide +kernel
theorem dX1_init_69 : decode cX1_init 69 = .ok (.aload_n 0, 1) := by decide +kernel
theorem dX1_init_70 : decode cX1_init 70 = .ok (.iconst (-1), 1) := by decide +kernel
theorem dX1_init_71 : decode cX1_init 71 = .ok (.putfield 40, 3) := by decide +kernel
theorem dX1_init_74 : decode cX1_init 74 = .ok (.return_, 1) := by decide +kernel
theorem dX1_hasGoal_0 : decode cX1_hasGoal 0 = .ok (.aload_n 0, 1) := by decide +kernel
theorem dX1_hasGoal_1 : decode cX1_hasGoal 1 = .ok (.getfield 40, 3) := by decide +kernel
theorem dX1_hasGoal_4 : decode cX1_hasGoal 4 = .ok (.iconst (-1), 1) := by decide +kernel
theorem dX1_hasGoal_5 : decode cX1_hasGoal 5 = .ok (.if_icmp .eq 7, 3) := by decide +kernel
theorem dX1_hasGoal_8 : decode cX1_hasGoal 8 = .ok (.iconst 1, 1) := by decide +kernel
theorem dX1_hasGoal_9 : decode cX1_hasGoal 9 = .ok (.goto 4, 3) := by decide +kernel
theorem dX1_hasGoal_12 : decode cX1_hasGoal 12 = .ok (.iconst 0, 1) := by decide +kernel
theorem dX1_hasGoal_13 : decode cX1_hasGoal 13 = .ok (.ireturn, 1) := by decide +kernel
set_option maxRecDepth 20000 in
theorem ggX1_isWhole_X1_hasGoal : GoodIn wsX1_isWhole wsX1_hasGoal := goodIn_r _ [7, 8, 18, 19, 20, 21, 22, 23, 24, 25] (by decide +kernel) (by decide +kernel)
set_option maxRecDepth 20000 in
theorem gX1_isWhole_X1_hasGoal : GoodIn wsX1_isWhole (wsV RX1 43 RX1 yX1_hasGoal wsX1_hasGoal) := goodIn_app (goodIn_of _ (by decide +kernel)) ggX1_isWhole_X1_hasGoal
set_option maxRecDepth 20000 in
theorem ggX1_isWhole_X4_digestOf : GoodIn wsX1_isWhole wsX4_digestOf := goodIn_r _ [13, 14, 15, 16, 12, 17, 26, 27] (by decide +kernel) (by decide +kernel)
set_option maxRecDepth 20000 in
theorem gX1_isWhole_X4_digestOf : GoodIn wsX1_isWhole (wsV RX1 47 RX4 yX4_digestOf wsX4_digestOf) := goodIn_app (goodIn_of _ (by decide +kernel)) ggX1_isWhole_X4_digestOf
theorem dX1_isWhole_0 : decode cX1_isWhole 0 = .ok (.aload_n 0, 1) := by decide +kernel
theorem dX1_isWhole_1 : decode cX1_isWhole 1 = .ok (.invokevirtual 43, 3) := by decide +kernel
theorem dX1_isWhole_4 : decode cX1_isWhole 4 = .ok (.ifCond .eq 25, 3) := by decide +kernel
theorem dX1_isWhole_7 : decode cX1_isWhole 7 = .ok (.aload_n 0, 1) := by decide +kernel
theorem dX1_isWhole_8 : decode cX1_isWhole 8 = .ok (.getfield 28, 3) := by decide +kernel
theorem dX1_isWhole_11 : decode cX1_isWhole 11 = .ok (.iconst 1, 1) := by decide +kernel
theorem dX1_isWhole_12 : decode cX1_isWhole 12 = .ok (.laload, 1) := by decide +kernel
theorem dX1_isWhole_13 : decode cX1_isWhole 13 = .ok (.aload_n 0, 1) := by decide +kernel
theorem dX1_isWhole_14 : decode cX1_isWhole 14 = .ok (.getfield 12, 3) := by decide +kernel
theorem dX1_isWhole_17 : decode cX1_isWhole 17 = .ok (.iconst 1, 1) := by decide +kernel
theorem dX1_isWhole_18 : decode cX1_isWhole 18 = .ok (.invokevirtual 47, 3) := by decide +kernel
theorem dX1_isWhole_21 : decode cX1_isWhole 21 = .ok (.lcmp, 1) := by decide +kernel
theorem dX1_isWhole_22 : decode cX1_isWhole 22 = .ok (.ifCond .ne 7, 3) := by decide +kernel
theorem dX1_isWhole_25 : decode cX1_isWhole 25 = .ok (.iconst 1, 1) := by decide +kernel
theorem dX1_isWhole_26 : decode cX1_isWhole 26 = .ok (.goto 4, 3) := by decide +kernel
theorem dX1_isWhole_29 : decode cX1_isWhole 29 = .ok (.iconst 0, 1) := by decide +kernel
theorem dX1_isWhole_30 : decode cX1_isWhole 30 = .ok (.ireturn, 1) := by decide +kernel
set_option maxRecDepth 20000 in
theorem ggX1_lacks_X4_isNode : GoodIn wsX1_lacks wsX4_isNode := goodIn_r _ [7] (by decide +kernel) (by decide +kernel)
set_option maxRecDepth 20000 in
theorem gX1_lacks_X4_isNode : GoodIn wsX1_lacks (va_wsS RX1 51 yX4_isNode wsX4_isNode) := goodIn_app (goodIn_of _ (by decide +kernel)) ggX1_lacks_X4_isNode
set_option maxRecDepth 20000 in
theorem ggX1_lacks_X4_digestOf : GoodIn wsX1_lacks wsX4_digestOf := goodIn_r _ [11, 12, 13, 5, 6, 7, 25, 26] (by decide +kernel) (by decide +kernel)
set_option maxRecDepth 20000 in
theorem gX1_lacks_X4_digestOf : GoodIn wsX1_lacks (wsV RX1 47 RX4 yX4_digestOf wsX4_digestOf) := goodIn_app (goodIn_of _ (by decide +kernel)) ggX1_lacks_X4_digestOf
set_option maxRecDepth 20000 in
theorem ggX1_lacks_X4_isLeaf : GoodIn wsX1_lacks wsX4_isLeaf := goodIn_r _ [16] (by decide +kernel) (by decide +kernel)
set_option maxRecDepth 20000 in
theorem gX1_lacks_X4_isLeaf : GoodIn wsX1_lacks (va_wsS RX1 55 yX4_isLeaf wsX4_isLeaf) := goodIn_app (goodIn_of _ (by decide +kernel)) ggX1_lacks_X4_isLeaf
theorem dX1_lacks_0 : decode cX1_lacks 0 = .ok (.iload_n 1, 1) := by decide +kernel
theorem dX1_lacks_1 : decode cX1_lacks 1 = .ok (.invokestatic 51, 3) := by decide +kernel
theorem dX1_lacks_4 : decode cX1_lacks 4 = .ok (.ifCond .eq 30, 3) := by decide +kernel
theorem dX1_lacks_7 : decode cX1_lacks 7 = .ok (.aload_n 0, 1) := by decide +kernel
theorem dX1_lacks_8 : decode cX1_lacks 8 = .ok (.getfield 24, 3) := by decide +kernel
theorem dX1_lacks_11 : decode cX1_lacks 11 = .ok (.iload_n 1, 1) := by decide +kernel
theorem dX1_lacks_12 : decode cX1_lacks 12 = .ok (.baload, 1) := by decide +kernel
theorem dX1_lacks_13 : decode cX1_lacks 13 = .ok (.ifCond .eq 21, 3) := by decide +kernel
theorem dX1_lacks_16 : decode cX1_lacks 16 = .ok (.aload_n 0, 1) := by decide +kernel
theorem dX1_lacks_17 : decode cX1_lacks 17 = .ok (.getfield 28, 3) := by decide +kernel
theorem dX1_lacks_20 : decode cX1_lacks 20 = .ok (.iload_n 1, 1) := by decide +kernel
theorem dX1_lacks_21 : decode cX1_lacks 21 = .ok (.laload, 1) := by decide +kernel
theorem dX1_lacks_22 : decode cX1_lacks 22 = .ok (.aload_n 0, 1) := by decide +kernel
theorem dX1_lacks_23 : decode cX1_lacks 23 = .ok (.getfield 12, 3) := by decide +kernel
theorem dX1_lacks_26 : decode cX1_lacks 26 = .ok (.iload_n 1, 1) := by decide +kernel
theorem dX1_lacks_27 : decode cX1_lacks 27 = .ok (.invokevirtual 47, 3) := by decide +kernel
theorem dX1_lacks_30 : decode cX1_lacks 30 = .ok (.lcmp, 1) := by decide +kernel
theorem dX1_lacks_31 : decode cX1_lacks 31 = .ok (.ifCond .ne 5, 3) := by decide +kernel
theorem dX1_lacks_34 : decode cX1_lacks 34 = .ok (.iconst 0, 1) := by decide +kernel
theorem dX1_lacks_35 : decode cX1_lacks 35 = .ok (.ireturn, 1) := by decide +kernel
theorem dX1_lacks_36 : decode cX1_lacks 36 = .ok (.iload_n 1, 1) := by decide +kernel
theorem dX1_lacks_37 : decode cX1_lacks 37 = .ok (.invokestatic 55, 3) := by decide +kernel
theorem dX1_lacks_40 : decode cX1_lacks 40 = .ok (.ifCond .ne 14, 3) := by decide +kernel
theorem dX1_lacks_43 : decode cX1_lacks 43 = .ok (.aload_n 0, 1) := by decide +kernel
theorem dX1_lacks_44 : decode cX1_lacks 44 = .ok (.getfield 24, 3) := by decide +kernel
theorem dX1_lacks_47 : decode cX1_lacks 47 = .ok (.iconst 2, 1) := by decide +kernel
theorem dX1_lacks_48 : decode cX1_lacks 48 = .ok (.iload_n 1, 1) := by decide +kernel
theorem dX1_lacks_49 : decode cX1_lacks 49 = .ok (.imul, 1) := by decide +kernel
theorem dX1_lacks_50 : decode cX1_lacks 50 = .ok (.baload, 1) := by decide +kernel
theorem dX1_lacks_51 : decode cX1_lacks 51 = .ok (.ifCond .ne 7, 3) := by decide +kernel
theorem dX1_lacks_54 : decode cX1_lacks 54 = .ok (.iconst 1, 1) := by decide +kernel
theorem dX1_lacks_55 : decode cX1_lacks 55 = .ok (.goto 4, 3) := by decide +kernel
theorem dX1_lacks_58 : decode cX1_lacks 58 = .ok (.iconst 0, 1) := by decide +kernel
theorem dX1_lacks_59 : decode cX1_lacks 59 = .ok (.ireturn, 1) := by decide +kernel
theorem dX1_lackAt_0 : decode cX1_lackAt 0 = .ok (.iload_n 1, 1) := by decide +kernel
theorem dX1_lackAt_1 : decode cX1_lackAt 1 = .ok (.ifCond .lt 20, 3) := by decide +kernel
theorem dX1_lackAt_4 : decode cX1_lackAt 4 = .ok (.iload_n 1, 1) := by decide +kernel
theorem dX1_lackAt_5 : decode cX1_lackAt 5 = .ok (.aload_n 0, 1) := by decide +kernel
theorem dX1_lackAt_6 : decode cX1_lackAt 6 = .ok (.getfield 36, 3) := by decide +kernel
theorem dX1_lackAt_9 : decode cX1_lackAt 9 = .ok (.if_icmp .ge 12, 3) := by decide +kernel
theorem dX1_lackAt_12 : decode cX1_lackAt 12 = .ok (.aload_n 0, 1) := by decide +kernel
theorem dX1_lackAt_13 : decode cX1_lackAt 13 = .ok (.getfield 32, 3) := by decide +kernel
theorem dX1_lackAt_16 : decode cX1_lackAt 16 = .ok (.iload_n 1, 1) := by decide +kernel
theorem dX1_lackAt_17 : decode cX1_lackAt 17 = .ok (.iaload, 1) := by decide +kernel
theorem dX1_lackAt_18 : decode cX1_lackAt 18 = .ok (.goto 4, 3) := by decide +kernel
theorem dX1_lackAt_21 : decode cX1_lackAt 21 = .ok (.iconst (-1), 1) := by decide +kernel
theorem dX1_lackAt_22 : decode cX1_lackAt 22 = .ok (.ireturn, 1) := by decide +kernel
theorem dX1_knownSize_0 : decode cX1_knownSize 0 = .ok (.iconst 0, 1) := by decide +kernel
theorem dX1_knownSize_1 : decode cX1_knownSize 1 = .ok (.istore_n 1, 1) := by decide +kernel
theorem dX1_knownSize_2 : decode cX1_knownSize 2 = .ok (.iconst 1, 1) := by decide +kernel
theorem dX1_knownSize_3 : decode cX1_knownSize 3 = .ok (.istore_n 2, 1) := by decide +kernel
theorem dX1_knownSize_4 : decode cX1_knownSize 4 = .ok (.iload_n 2, 1) := by decide +kernel
theorem dX1_knownSize_5 : decode cX1_knownSize 5 = .ok (.sipush 128, 3) := by decide +kernel
theorem dX1_knownSize_8 : decode cX1_knownSize 8 = .ok (.if_icmp .ge 21, 3) := by decide +kernel
theorem dX1_knownSize_11 : decode cX1_knownSize 11 = .ok (.aload_n 0, 1) := by decide +kernel
theorem dX1_knownSize_12 : decode cX1_knownSize 12 = .ok (.getfield 24, 3) := by decide +kernel
theorem dX1_knownSize_15 : decode cX1_knownSize 15 = .ok (.iload_n 2, 1) := by decide +kernel
theorem dX1_knownSize_16 : decode cX1_knownSize 16 = .ok (.baload, 1) := by decide +kernel
theorem dX1_knownSize_17 : decode cX1_knownSize 17 = .ok (.ifCond .eq 6, 3) := by decide +kernel
theorem dX1_knownSize_20 : decode cX1_knownSize 20 = .ok (.iinc 1 1, 3) := by decide +kernel
theorem dX1_knownSize_23 : decode cX1_knownSize 23 = .ok (.iinc 2 1, 3) := by decide +kernel
theorem dX1_knownSize_26 : decode cX1_knownSize 26 = .ok (.goto (-22), 3) := by decide +kernel
theorem dX1_knownSize_29 : decode cX1_knownSize 29 = .ok (.iload_n 1, 1) := by decide +kernel
theorem dX1_knownSize_30 : decode cX1_knownSize 30 = .ok (.ireturn, 1) := by decide +kernel
set_option maxRecDepth 20000 in
theorem ggX1_aim_X3_copyState : GoodIn wsX1_aim wsX3_copyState := goodIn_r _ [12, 13, 14, 15, 16, 5, 17, 18, 19, 20, 21, 22, 23, 24, 25, 26, 27, 28, 29, 30, 31, 32, 33, 34, 35, 36, 37, 38, 39, 40, 41, 42, 43, 87, 88, 89, 90, 91] (by decide +kernel) (by decide +kernel)
set_option maxRecDepth 20000 in
theorem gX1_aim_X3_copyState : GoodIn wsX1_aim (wsV RX1 58 RX3 yX3_copyState wsX3_copyState) := goodIn_app (goodIn_of _ (by decide +kernel)) ggX1_aim_X3_copyState
set_option maxRecDepth 20000 in
theorem ggX1_aim_X1_forget : GoodIn wsX1_aim wsX1_forget := goodIn_r _ [48, 49, 79, 80, 81, 82, 83, 84, 85, 86] (by decide +kernel) (by decide +kernel)
set_option maxRecDepth 20000 in
theorem gX1_aim_X1_forget : GoodIn wsX1_aim (wsV RX1 70 RX1 yX1_forget wsX1_forget) := goodIn_app (goodIn_of _ (by decide +kernel)) ggX1_aim_X1_forget
set_option maxRecDepth 20000 in
theorem ggX1_aim_X4_digestOf : GoodIn wsX1_aim wsX4_digestOf := goodIn_r _ [53, 28, 30, 31, 22, 32, 87, 88] (by decide +kernel) (by decide +kernel)
set_option maxRecDepth 20000 in
theorem gX1_aim_X4_digestOf : GoodIn wsX1_aim (wsV RX1 47 RX4 yX4_digestOf wsX4_digestOf) := goodIn_app (goodIn_of _ (by decide +kernel)) ggX1_aim_X4_digestOf
set_option maxRecDepth 20000 in
theorem ggX1_aim_X1_learn : GoodIn wsX1_aim wsX1_learn := goodIn_r _ [57, 49, 58, 59, 60, 31, 22, 32, 61, 62, 63, 64, 29, 30, 36, 37, 38, 33, 34, 35, 65, 25, 26, 27, 28, 39, 40, 41, 42, 43, 79, 80, 81, 82, 83, 84, 85, 86, 87, 88] (by decide +kernel) (by decide +kernel)
set_option maxRecDepth 20000 in
theorem gX1_aim_X1_learn : GoodIn wsX1_aim (wsV RX1 74 RX1 yX1_learn wsX1_learn) := goodIn_app (goodIn_of _ (by decide +kernel)) ggX1_aim_X1_learn
set_option maxRecDepth 20000 in
theorem ggX1_aim_X1_findLacks : GoodIn wsX1_aim wsX1_findLacks := goodIn_r _ [69, 70, 71, 72, 73, 74, 47, 75, 49, 58, 59, 60, 31, 22, 32, 50, 51, 52, 53, 28, 30, 76, 77, 78, 79, 80, 81, 82, 83, 84, 85, 86, 87, 88] (by decide +kernel) (by decide +kernel)
set_option maxRecDepth 20000 in
theorem gX1_aim_X1_findLacks : GoodIn wsX1_aim (wsV RX1 78 RX1 yX1_findLacks wsX1_findLacks) := goodIn_app (goodIn_of _ (by decide +kernel)) ggX1_aim_X1_findLacks
theorem dX1_aim_0 : decode cX1_aim 0 = .ok (.aload_n 0, 1) := by decide +kernel
theorem dX1_aim_1 : decode cX1_aim 1 = .ok (.iload_n 1, 1) := by decide +kernel
theorem dX1_aim_2 : decode cX1_aim 2 = .ok (.putfield 40, 3) := by decide +kernel
theorem dX1_aim_5 : decode cX1_aim 5 = .ok (.aload_n 2, 1) := by decide +kernel
theorem dX1_aim_6 : decode cX1_aim 6 = .ok (.iload_n 1, 1) := by decide +kernel
theorem dX1_aim_7 : decode cX1_aim 7 = .ok (.aload_n 0, 1) := by decide +kernel
theorem dX1_aim_8 : decode cX1_aim 8 = .ok (.getfield 18, 3) := by decide +kernel
theorem dX1_aim_11 : decode cX1_aim 11 = .ok (.invokevirtual 58, 3) := by decide +kernel
theorem dX1_aim_14 : decode cX1_aim 14 = .ok (.aload_n 2, 1) := by decide +kernel
theorem dX1_aim_15 : decode cX1_aim 15 = .ok (.iload_n 1, 1) := by decide +kernel
theorem dX1_aim_16 : decode cX1_aim 16 = .ok (.iconst 1, 1) := by decide +kernel
theorem dX1_aim_17 : decode cX1_aim 17 = .ok (.isub, 1) := by decide +kernel
theorem dX1_aim_18 : decode cX1_aim 18 = .ok (.iconst 0, 1) := by decide +kernel
theorem dX1_aim_19 : decode cX1_aim 19 = .ok (.invokestatic 64, 3) := by decide +kernel
theorem dX1_aim_22 : decode cX1_aim 22 = .ok (.aload_n 0, 1) := by decide +kernel
theorem dX1_aim_23 : decode cX1_aim 23 = .ok (.getfield 21, 3) := by decide +kernel
theorem dX1_aim_26 : decode cX1_aim 26 = .ok (.invokevirtual 58, 3) := by decide +kernel
theorem dX1_aim_29 : decode cX1_aim 29 = .ok (.aload_n 0, 1) := by decide +kernel
theorem dX1_aim_30 : decode cX1_aim 30 = .ok (.iconst 1, 1) := by decide +kernel
theorem dX1_aim_31 : decode cX1_aim 31 = .ok (.invokevirtual 70, 3) := by decide +kernel
theorem dX1_aim_34 : decode cX1_aim 34 = .ok (.aload_n 0, 1) := by decide +kernel
theorem dX1_aim_35 : decode cX1_aim 35 = .ok (.iconst 1, 1) := by decide +kernel
theorem dX1_aim_36 : decode cX1_aim 36 = .ok (.aload_n 0, 1) := by decide +kernel
theorem dX1_aim_37 : decode cX1_aim 37 = .ok (.getfield 18, 3) := by decide +kernel
theorem dX1_aim_40 : decode cX1_aim 40 = .ok (.iconst 1, 1) := by decide +kernel
theorem dX1_aim_41 : decode cX1_aim 41 = .ok (.invokevirtual 47, 3) := by decide +kernel
theorem dX1_aim_44 : decode cX1_aim 44 = .ok (.invokevirtual 74, 3) := by decide +kernel
theorem dX1_aim_47 : decode cX1_aim 47 = .ok (.aload_n 0, 1) := by decide +kernel
theorem dX1_aim_48 : decode cX1_aim 48 = .ok (.invokevirtual 78, 3) := by decide +kernel
theorem dX1_aim_51 : decode cX1_aim 51 = .ok (.return_, 1) := by decide +kernel
set_option maxRecDepth 20000 in
theorem ggX1_forgetBelowRoot_X1_forget : GoodIn wsX1_forgetBelowRoot wsX1_forget := goodIn_r _ [5, 6, 32, 33, 34, 35, 36, 37, 38, 39] (by decide +kernel) (by decide +kernel)
set_option maxRecDepth 20000 in
theorem gX1_forgetBelowRoot_X1_forget : GoodIn wsX1_forgetBelowRoot (wsV RX1 70 RX1 yX1_forget wsX1_forget) := goodIn_app (goodIn_of _ (by decide +kernel)) ggX1_forgetBelowRoot_X1_forget
set_option maxRecDepth 20000 in
theorem ggX1_forgetBelowRoot_X1_findLacks : GoodIn wsX1_forgetBelowRoot wsX1_findLacks := goodIn_r _ [10, 11, 12, 13, 14, 15, 4, 16, 6, 17, 18, 19, 20, 21, 22, 23, 24, 25, 26, 27, 28, 29, 30, 31, 32, 33, 34, 35, 36, 37, 38, 39, 40, 41] (by decide +kernel) (by decide +kernel)
set_option maxRecDepth 20000 in
theorem gX1_forgetBelowRoot_X1_findLacks : GoodIn wsX1_forgetBelowRoot (wsV RX1 78 RX1 yX1_findLacks wsX1_findLacks) := goodIn_app (goodIn_of _ (by decide +kernel)) ggX1_forgetBelowRoot_X1_findLacks
theorem dX1_forgetBelowRoot_0 : decode cX1_forgetBelowRoot 0 = .ok (.aload_n 0, 1) := by decide +kernel
theorem dX1_forgetBelowRoot_1 : decode cX1_forgetBelowRoot 1 = .ok (.iconst 2, 1) := by decide +kernel
theorem dX1_forgetBelowRoot_2 : decode cX1_forgetBelowRoot 2 = .ok (.invokevirtual 70, 3) := by decide +kernel
theorem dX1_forgetBelowRoot_5 : decode cX1_forgetBelowRoot 5 = .ok (.aload_n 0, 1) := by decide +kernel
theorem dX1_forgetBelowRoot_6 : decode cX1_forgetBelowRoot 6 = .ok (.invokevirtual 78, 3) := by decide +kernel
theorem dX1_forgetBelowRoot_9 : decode cX1_forgetBelowRoot 9 = .ok (.return_, 1) := by decide +kernel
set_option maxRecDepth 20000 in
theorem ggX1_spoil_X4_put : GoodIn wsX1_spoil wsX4_put := goodIn_r _ [6, 7, 8, 9, 5, 10, 11, 12, 13, 14, 15, 16, 17, 18, 19, 20, 21, 22, 23, 24, 25, 26, 27, 28, 29, 59, 60] (by decide +kernel) (by decide +kernel)
set_option maxRecDepth 20000 in
theorem gX1_spoil_X4_put : GoodIn wsX1_spoil (wsV RX1 81 RX4 yX4_put wsX4_put) := goodIn_app (goodIn_of _ (by decide +kernel)) ggX1_spoil_X4_put
set_option maxRecDepth 20000 in
theorem ggX1_spoil_X1_findLacks : GoodIn wsX1_spoil wsX1_findLacks := goodIn_r _ [34, 35, 36, 37, 38, 39, 33, 40, 41, 42, 1, 43, 17, 5, 18, 44, 45, 46, 47, 15, 16, 48, 49, 50, 51, 52, 53, 54, 55, 56, 57, 58, 59, 60] (by decide +kernel) (by decide +kernel)
set_option maxRecDepth 20000 in
theorem gX1_spoil_X1_findLacks : GoodIn wsX1_spoil (wsV RX1 78 RX1 yX1_findLacks wsX1_findLacks) := goodIn_app (goodIn_of _ (by decide +kernel)) ggX1_spoil_X1_findLacks
theorem dX1_spoil_0 : decode cX1_spoil 0 = .ok (.aload_n 0, 1) := by decide +kernel
theorem dX1_spoil_1 : decode cX1_spoil 1 = .ok (.getfield 12, 3) := by decide +kernel
theorem dX1_spoil_4 : decode cX1_spoil 4 = .ok (.iload_n 1, 1) := by decide +kernel
theorem dX1_spoil_5 : decode cX1_spoil 5 = .ok (.lload_n 2, 1) := by decide +kernel
theorem dX1_spoil_6 : decode cX1_spoil 6 = .ok (.invokevirtual 81, 3) := by decide +kernel
theorem dX1_spoil_9 : decode cX1_spoil 9 = .ok (.aload_n 0, 1) := by decide +kernel
theorem dX1_spoil_10 : decode cX1_spoil 10 = .ok (.invokevirtual 78, 3) := by decide +kernel
theorem dX1_spoil_13 : decode cX1_spoil 13 = .ok (.return_, 1) := by decide +kernel
set_option maxRecDepth 20000 in
theorem ggX1_judge_X4_isNode : GoodIn wsX1_judge wsX4_isNode := goodIn_r _ [6] (by decide +kernel) (by decide +kernel)
set_option maxRecDepth 20000 in
theorem gX1_judge_X4_isNode : GoodIn wsX1_judge (va_wsS RX1 51 yX4_isNode wsX4_isNode) := goodIn_app (goodIn_of _ (by decide +kernel)) ggX1_judge_X4_isNode
set_option maxRecDepth 20000 in
theorem ggX1_judge_X2_ownDigest : GoodIn wsX1_judge wsX2_ownDigest := goodIn_r _ [11, 12, 13, 14, 15, 16, 17, 18, 5, 19, 20, 21, 22, 23, 24, 25, 26, 27, 4, 6, 28, 29, 30, 31, 32, 33, 42, 43] (by decide +kernel) (by decide +kernel)
set_option maxRecDepth 20000 in
theorem gX1_judge_X2_ownDigest : GoodIn wsX1_judge (wsV RX1 89 RX2 yX2_ownDigest wsX2_ownDigest) := goodIn_app (goodIn_of _ (by decide +kernel)) ggX1_judge_X2_ownDigest
theorem dX1_judge_0 : decode cX1_judge 0 = .ok (.aload_n 1, 1) := by decide +kernel
theorem dX1_judge_1 : decode cX1_judge 1 = .ok (.getfield 84, 3) := by decide +kernel
theorem dX1_judge_4 : decode cX1_judge 4 = .ok (.invokestatic 51, 3) := by decide +kernel
theorem dX1_judge_7 : decode cX1_judge 7 = .ok (.ifCond .eq 24, 3) := by decide +kernel
theorem dX1_judge_10 : decode cX1_judge 10 = .ok (.aload_n 0, 1) := by decide +kernel
theorem dX1_judge_11 : decode cX1_judge 11 = .ok (.getfield 28, 3) := by decide +kernel
theorem dX1_judge_14 : decode cX1_judge 14 = .ok (.aload_n 1, 1) := by decide +kernel
theorem dX1_judge_15 : decode cX1_judge 15 = .ok (.getfield 84, 3) := by decide +kernel
theorem dX1_judge_18 : decode cX1_judge 18 = .ok (.laload, 1) := by decide +kernel
theorem dX1_judge_19 : decode cX1_judge 19 = .ok (.aload_n 1, 1) := by decide +kernel
theorem dX1_judge_20 : decode cX1_judge 20 = .ok (.invokevirtual 89, 3) := by decide +kernel
theorem dX1_judge_23 : decode cX1_judge 23 = .ok (.lcmp, 1) := by decide +kernel
theorem dX1_judge_24 : decode cX1_judge 24 = .ok (.ifCond .ne 7, 3) := by decide +kernel
theorem dX1_judge_27 : decode cX1_judge 27 = .ok (.iconst 1, 1) := by decide +kernel
theorem dX1_judge_28 : decode cX1_judge 28 = .ok (.goto 4, 3) := by decide +kernel
theorem dX1_judge_31 : decode cX1_judge 31 = .ok (.iconst 0, 1) := by decide +kernel
theorem dX1_judge_32 : decode cX1_judge 32 = .ok (.ireturn, 1) := by decide +kernel
set_option maxRecDepth 20000 in
theorem ggX1_take_X1_learn : GoodIn wsX1_take wsX1_learn := goodIn_r _ [11, 12, 13, 5, 14, 15, 16, 17, 18, 19, 20, 21, 22, 23, 24, 25, 26, 27, 28, 29, 30, 31, 32, 33, 34, 35, 36, 37, 38, 39, 67, 68, 69, 70, 71, 72, 73, 74, 75, 76] (by decide +kernel) (by decide +kernel)
set_option maxRecDepth 20000 in
theorem gX1_take_X1_learn : GoodIn wsX1_take (wsV RX1 74 RX1 yX1_learn wsX1_learn) := goodIn_app (goodIn_of _ (by decide +kernel)) ggX1_take_X1_learn
set_option maxRecDepth 20000 in
theorem ggX1_take_X4_copyBelow : GoodIn wsX1_take wsX4_copyBelow := goodIn_r _ [43, 22, 23, 15, 16, 17, 24, 25, 26, 27, 28, 29, 30, 31, 32, 33, 34, 35, 36, 37, 38, 39, 75, 76] (by decide +kernel) (by decide +kernel)
set_option maxRecDepth 20000 in
theorem gX1_take_X4_copyBelow : GoodIn wsX1_take (wsV RX1 107 RX4 yX4_copyBelow wsX4_copyBelow) := goodIn_app (goodIn_of _ (by decide +kernel)) ggX1_take_X4_copyBelow
set_option maxRecDepth 20000 in
theorem ggX1_take_X1_findLacks : GoodIn wsX1_take wsX1_findLacks := goodIn_r _ [47, 48, 49, 50, 51, 52, 10, 53, 12, 13, 5, 14, 15, 16, 17, 54, 55, 56, 57, 34, 23, 58, 59, 60, 67, 68, 69, 70, 71, 72, 73, 74, 75, 76] (by decide +kernel) (by decide +kernel)
set_option maxRecDepth 20000 in
theorem gX1_take_X1_findLacks : GoodIn wsX1_take (wsV RX1 78 RX1 yX1_findLacks wsX1_findLacks) := goodIn_app (goodIn_of _ (by decide +kernel)) ggX1_take_X1_findLacks
theorem dX1_take_0 : decode cX1_take 0 = .ok (.aload_n 1, 1) := by decide +kernel
theorem dX1_take_1 : decode cX1_take 1 = .ok (.getfield 93, 3) := by decide +kernel
theorem dX1_take_4 : decode cX1_take 4 = .ok (.ifCond .eq 36, 3) := by decide +kernel
theorem dX1_take_7 : decode cX1_take 7 = .ok (.aload_n 0, 1) := by decide +kernel
theorem dX1_take_8 : decode cX1_take 8 = .ok (.iconst 2, 1) := by decide +kernel
theorem dX1_take_9 : decode cX1_take 9 = .ok (.aload_n 1, 1) := by decide +kernel
theorem dX1_take_10 : decode cX1_take 10 = .ok (.getfield 84, 3) := by decide +kernel
theorem dX1_take_13 : decode cX1_take 13 = .ok (.imul, 1) := by decide +kernel
theorem dX1_take_14 : decode cX1_take 14 = .ok (.aload_n 1, 1) := by decide +kernel
theorem dX1_take_15 : decode cX1_take 15 = .ok (.getfield 97, 3) := by decide +kernel
theorem dX1_take_18 : decode cX1_take 18 = .ok (.invokevirtual 74, 3) := by decide +kernel
theorem dX1_take_21 : decode cX1_take 21 = .ok (.aload_n 0, 1) := by decide +kernel
theorem dX1_take_22 : decode cX1_take 22 = .ok (.iconst 2, 1) := by decide +kernel
theorem dX1_take_23 : decode cX1_take 23 = .ok (.aload_n 1, 1) := by decide +kernel
theorem dX1_take_24 : decode cX1_take 24 = .ok (.getfield 84, 3) := by decide +kernel
theorem dX1_take_27 : decode cX1_take 27 = .ok (.imul, 1) := by decide +kernel
theorem dX1_take_28 : decode cX1_take 28 = .ok (.iconst 1, 1) := by decide +kernel
theorem dX1_take_29 : decode cX1_take 29 = .ok (.iadd, 1) := by decide +kernel
theorem dX1_take_30 : decode cX1_take 30 = .ok (.aload_n 1, 1) := by decide +kernel
theorem dX1_take_31 : decode cX1_take 31 = .ok (.getfield 101, 3) := by decide +kernel
theorem dX1_take_34 : decode cX1_take 34 = .ok (.invokevirtual 74, 3) := by decide +kernel
theorem dX1_take_37 : decode cX1_take 37 = .ok (.goto 18, 3) := by decide +kernel
theorem dX1_take_40 : decode cX1_take 40 = .ok (.aload_n 0, 1) := by decide +kernel
theorem dX1_take_41 : decode cX1_take 41 = .ok (.getfield 12, 3) := by decide +kernel
theorem dX1_take_44 : decode cX1_take 44 = .ok (.aload_n 1, 1) := by decide +kernel
theorem dX1_take_45 : decode cX1_take 45 = .ok (.getfield 84, 3) := by decide +kernel
theorem dX1_take_48 : decode cX1_take 48 = .ok (.aload_n 1, 1) := by decide +kernel
theorem dX1_take_49 : decode cX1_take 49 = .ok (.getfield 104, 3) := by decide +kernel
theorem dX1_take_52 : decode cX1_take 52 = .ok (.invokevirtual 107, 3) := by decide +kernel
theorem dX1_take_55 : decode cX1_take 55 = .ok (.aload_n 0, 1) := by decide +kernel
theorem dX1_take_56 : decode cX1_take 56 = .ok (.invokevirtual 78, 3) := by decide +kernel
theorem dX1_take_59 : decode cX1_take 59 = .ok (.return_, 1) := by decide +kernel
theorem dX1_forget_0 : decode cX1_forget 0 = .ok (.iload_n 1, 1) := by decide +kernel
theorem dX1_forget_1 : decode cX1_forget 1 = .ok (.istore_n 2, 1) := by decide +kernel
theorem dX1_forget_2 : decode cX1_forget 2 = .ok (.iload_n 2, 1) := by decide +kernel
theorem dX1_forget_3 : decode cX1_forget 3 = .ok (.sipush 128, 3) := by decide +kernel
theorem dX1_forget_6 : decode cX1_forget 6 = .ok (.if_icmp .ge 16, 3) := by decide +kernel
theorem dX1_forget_9 : decode cX1_forget 9 = .ok (.aload_n 0, 1) := by decide +kernel
theorem dX1_forget_10 : decode cX1_forget 10 = .ok (.getfield 24, 3) := by decide +kernel
theorem dX1_forget_13 : decode cX1_forget 13 = .ok (.iload_n 2, 1) := by decide +kernel
theorem dX1_forget_14 : decode cX1_forget 14 = .ok (.iconst 0, 1) := by decide +kernel
theorem dX1_forget_15 : decode cX1_forget 15 = .ok (.bastore, 1) := by decide +kernel
theorem dX1_forget_16 : decode cX1_forget 16 = .ok (.iinc 2 1, 3) := by decide +kernel
theorem dX1_forget_19 : decode cX1_forget 19 = .ok (.goto (-17), 3) := by decide +kernel
theorem dX1_forget_22 : decode cX1_forget 22 = .ok (.return_, 1) := by decide +kernel
set_option maxRecDepth 20000 in
theorem ggX1_learn_X4_isNode : GoodIn wsX1_learn wsX4_isNode := goodIn_r _ [7] (by decide +kernel) (by decide +kernel)
set_option maxRecDepth 20000 in
theorem gX1_learn_X4_isNode : GoodIn wsX1_learn (va_wsS RX1 51 yX4_isNode wsX4_isNode) := goodIn_app (goodIn_of _ (by decide +kernel)) ggX1_learn_X4_isNode
set_option maxRecDepth 20000 in
theorem ggX1_learn_X4_emptyBelow : GoodIn wsX1_learn wsX4_emptyBelow := goodIn_r _ [11, 12, 13, 5, 6, 7, 14, 15, 16, 17, 18, 19, 20, 21, 22, 23, 24, 25, 26, 27, 28, 29, 38, 39] (by decide +kernel) (by decide +kernel)
set_option maxRecDepth 20000 in
theorem gX1_learn_X4_emptyBelow : GoodIn wsX1_learn (wsV RX1 110 RX4 yX4_emptyBelow wsX4_emptyBelow) := goodIn_app (goodIn_of _ (by decide +kernel)) ggX1_learn_X4_emptyBelow
theorem dX1_learn_0 : decode cX1_learn 0 = .ok (.iload_n 1, 1) := by decide +kernel
theorem dX1_learn_1 : decode cX1_learn 1 = .ok (.invokestatic 51, 3) := by decide +kernel
theorem dX1_learn_4 : decode cX1_learn 4 = .ok (.ifCond .ne 4, 3) := by decide +kernel
theorem dX1_learn_7 : decode cX1_learn 7 = .ok (.return_, 1) := by decide +kernel
theorem dX1_learn_8 : decode cX1_learn 8 = .ok (.aload_n 0, 1) := by decide +kernel
theorem dX1_learn_9 : decode cX1_learn 9 = .ok (.getfield 24, 3) := by decide +kernel
theorem dX1_learn_12 : decode cX1_learn 12 = .ok (.iload_n 1, 1) := by decide +kernel
theorem dX1_learn_13 : decode cX1_learn 13 = .ok (.iconst 1, 1) := by decide +kernel
theorem dX1_learn_14 : decode cX1_learn 14 = .ok (.bastore, 1) := by decide +kernel
theorem dX1_learn_15 : decode cX1_learn 15 = .ok (.aload_n 0, 1) := by decide +kernel
theorem dX1_learn_16 : decode cX1_learn 16 = .ok (.getfield 28, 3) := by decide +kernel
theorem dX1_learn_19 : decode cX1_learn 19 = .ok (.iload_n 1, 1) := by decide +kernel
theorem dX1_learn_20 : decode cX1_learn 20 = .ok (.lload_n 2, 1) := by decide +kernel
theorem dX1_learn_21 : decode cX1_learn 21 = .ok (.lastore, 1) := by decide +kernel
theorem dX1_learn_22 : decode cX1_learn 22 = .ok (.lload_n 2, 1) := by decide +kernel
theorem dX1_learn_23 : decode cX1_learn 23 = .ok (.lconst 0, 1) := by decide +kernel
theorem dX1_learn_24 : decode cX1_learn 24 = .ok (.lcmp, 1) := by decide +kernel
theorem dX1_learn_25 : decode cX1_learn 25 = .ok (.ifCond .ne 11, 3) := by decide +kernel
theorem dX1_learn_28 : decode cX1_learn 28 = .ok (.aload_n 0, 1) := by decide +kernel
theorem dX1_learn_29 : decode cX1_learn 29 = .ok (.getfield 12, 3) := by decide +kernel
theorem dX1_learn_32 : decode cX1_learn 32 = .ok (.iload_n 1, 1) := by decide +kernel
theorem dX1_learn_33 : decode cX1_learn 33 = .ok (.invokevirtual 110, 3) := by decide +kernel
theorem dX1_learn_36 : decode cX1_learn 36 = .ok (.return_, 1) := by decide +kernel
set_option maxRecDepth 20000 in
theorem ggX1_findLacks_X1_lacks : GoodIn wsX1_findLacks wsX1_lacks := goodIn_r _ [7, 8, 9, 10, 11, 12, 13, 14, 15, 16, 17, 18, 19, 20, 21, 22, 23, 24, 25, 26, 27, 28, 29, 30, 31, 32, 33] (by decide +kernel) (by decide +kernel)
set_option maxRecDepth 20000 in
theorem gX1_findLacks_X1_lacks : GoodIn wsX1_findLacks (wsV RX1 113 RX1 yX1_lacks wsX1_lacks) := goodIn_app (goodIn_of _ (by decide +kernel)) ggX1_findLacks_X1_lacks
theorem dX1_findLacks_0 : decode cX1_findLacks 0 = .ok (.aload_n 0, 1) := by decide +kernel
theorem dX1_findLacks_1 : decode cX1_findLacks 1 = .ok (.iconst 0, 1) := by decide +kernel
theorem dX1_findLacks_2 : decode cX1_findLacks 2 = .ok (.putfield 36, 3) := by decide +kernel
theorem dX1_findLacks_5 : decode cX1_findLacks 5 = .ok (.iconst 1, 1) := by decide +kernel
theorem dX1_findLacks_6 : decode cX1_findLacks 6 = .ok (.istore_n 1, 1) := by decide +kernel
theorem dX1_findLacks_7 : decode cX1_findLacks 7 = .ok (.iload_n 1, 1) := by decide +kernel
theorem dX1_findLacks_8 : decode cX1_findLacks 8 = .ok (.sipush 128, 3) := by decide +kernel
theorem dX1_findLacks_11 : decode cX1_findLacks 11 = .ok (.if_icmp .ge 37, 3) := by decide +kernel
theorem dX1_findLacks_14 : decode cX1_findLacks 14 = .ok (.aload_n 0, 1) := by decide +kernel
theorem dX1_findLacks_15 : decode cX1_findLacks 15 = .ok (.iload_n 1, 1) := by decide +kernel
theorem dX1_findLacks_16 : decode cX1_findLacks 16 = .ok (.invokevirtual 113, 3) := by decide +kernel
theorem dX1_findLacks_19 : decode cX1_findLacks 19 = .ok (.ifCond .eq 23, 3) := by decide +kernel
theorem dX1_findLacks_22 : decode cX1_findLacks 22 = .ok (.aload_n 0, 1) := by decide +kernel
theorem dX1_findLacks_23 : decode cX1_findLacks 23 = .ok (.getfield 32, 3) := by decide +kernel
theorem dX1_findLacks_26 : decode cX1_findLacks 26 = .ok (.aload_n 0, 1) := by decide +kernel
theorem dX1_findLacks_27 : decode cX1_findLacks 27 = .ok (.getfield 36, 3) := by decide +kernel
theorem dX1_findLacks_30 : decode cX1_findLacks 30 = .ok (.iload_n 1, 1) := by decide +kernel
theorem dX1_findLacks_31 : decode cX1_findLacks 31 = .ok (.iastore, 1) := by decide +kernel
theorem dX1_findLacks_32 : decode cX1_findLacks 32 = .ok (.aload_n 0, 1) := by decide +kernel
theorem dX1_findLacks_33 : decode cX1_findLacks 33 = .ok (.dup, 1) := by decide +kernel
theorem dX1_findLacks_34 : decode cX1_findLacks 34 = .ok (.getfield 36, 3) := by decide +kernel
theorem dX1_findLacks_37 : decode cX1_findLacks 37 = .ok (.iconst 1, 1) := by decide +kernel
theorem dX1_findLacks_38 : decode cX1_findLacks 38 = .ok (.iadd, 1) := by decide +kernel
theorem dX1_findLacks_39 : decode cX1_findLacks 39 = .ok (.putfield 36, 3) := by decide +kernel
theorem dX1_findLacks_42 : decode cX1_findLacks 42 = .ok (.iinc 1 1, 3) := by decide +kernel
theorem dX1_findLacks_45 : decode cX1_findLacks 45 = .ok (.goto (-38), 3) := by decide +kernel
theorem dX1_findLacks_48 : decode cX1_findLacks 48 = .ok (.return_, 1) := by decide +kernel
set_option maxRecDepth 20000 in
theorem ggX2_init_X4_init : GoodIn wsX2_init wsX4_init := goodIn_r _ [14, 15, 2, 3, 16, 17, 18, 19, 20] (by decide +kernel) (by decide +kernel)
set_option maxRecDepth 20000 in
theorem gX2_init_X4_init_n9 : GoodIn wsX2_init (wsX4_init) := ggX2_init_X4_init
theorem dX2_init_0 : decode cX2_init 0 = .ok (.aload_n 0, 1) := by decide +kernel
theorem dX2_init_1 : decode cX2_init 1 = .ok (.invokespecial 1, 3) := by decide +kernel
theorem dX2_init_4 : decode cX2_init 4 = .ok (.aload_n 0, 1) := by decide +kernel
theorem dX2_init_5 : decode cX2_init 5 = .ok (.new 7, 3) := by decide +kernel
theorem dX2_init_8 : decode cX2_init 8 = .ok (.dup, 1) := by decide +kernel
theorem dX2_init_9 : decode cX2_init 9 = .ok (.invokespecial 9, 3) := by decide +kernel
theorem dX2_init_12 : decode cX2_init 12 = .ok (.putfield 10, 3) := by decide +kernel
theorem dX2_init_15 : decode cX2_init 15 = .ok (.aload_n 0, 1) := by decide +kernel
theorem dX2_init_16 : decode cX2_init 16 = .ok (.iconst 1, 1) := by decide +kernel
theorem dX2_init_17 : decode cX2_init 17 = .ok (.putfield 16, 3) := by decide +kernel
theorem dX2_init_20 : decode cX2_init 20 = .ok (.aload_n 0, 1) := by decide +kernel
theorem dX2_init_21 : decode cX2_init 21 = .ok (.iconst 0, 1) := by decide +kernel
theorem dX2_init_22 : decode cX2_init 22 = .ok (.putfield 20, 3) := by decide +kernel
theorem dX2_init_25 : decode cX2_init 25 = .ok (.aload_n 0, 1) := by decide +kernel
theorem dX2_init_26 : decode cX2_init 26 = .ok (.lconst 0, 1) := by decide +kernel
theorem dX2_init_27 : decode cX2_init 27 = .ok (.putfield 24, 3) := by decide +kernel
theorem dX2_init_30 : decode cX2_init 30 = .ok (.aload_n 0, 1) := by decide +kernel
theorem dX2_init_31 : decode cX2_init 31 = .ok (.lconst 0, 1) := by decide +kernel
theorem dX2_init_32 : decode cX2_init 32 = .ok (.putfield 28, 3) := by decide +kernel
theorem dX2_init_35 : decode cX2_init 35 = .ok (.aload_n 0, 1) := by decide +kernel
theorem dX2_init_36 : decode cX2_init 36 = .ok (.iconst 0, 1) := by decide +kernel
theorem dX2_init_37 : decode cX2_init 37 = .ok (.putfield 31, 3) := by decide +kernel
theorem dX2_init_40 : decode cX2_init 40 = .ok (.return_, 1) := by decide +kernel
set_option maxRecDepth 20000 in
theorem ggX2_fillPair_X4_digestOf : GoodIn wsX2_fillPair wsX4_digestOf := goodIn_r _ [10, 11, 12, 13, 9, 14, 21, 22] (by decide +kernel) (by decide +kernel)
set_option maxRecDepth 20000 in
theorem gX2_fillPair_X4_digestOf : GoodIn wsX2_fillPair (wsV RX2 34 RX4 yX4_digestOf wsX4_digestOf) := goodIn_app (goodIn_of _ (by decide +kernel)) ggX2_fillPair_X4_digestOf
theorem dX2_fillPair_0 : decode cX2_fillPair 0 = .ok (.aload_n 0, 1) := by decide +kernel
theorem dX2_fillPair_1 : decode cX2_fillPair 1 = .ok (.iload_n 3, 1) := by decide +kernel
theorem dX2_fillPair_2 : decode cX2_fillPair 2 = .ok (.putfield 16, 3) := by decide +kernel
theorem dX2_fillPair_5 : decode cX2_fillPair 5 = .ok (.aload_n 0, 1) := by decide +kernel
theorem dX2_fillPair_6 : decode cX2_fillPair 6 = .ok (.iconst 1, 1) := by decide +kernel
theorem dX2_fillPair_7 : decode cX2_fillPair 7 = .ok (.putfield 20, 3) := by decide +kernel
theorem dX2_fillPair_10 : decode cX2_fillPair 10 = .ok (.aload_n 2, 1) := by decide +kernel
theorem dX2_fillPair_11 : decode cX2_fillPair 11 = .ok (.iconst 2, 1) := by decide +kernel
theorem dX2_fillPair_12 : decode cX2_fillPair 12 = .ok (.aload_n 0, 1) := by decide +kernel
theorem dX2_fillPair_13 : decode cX2_fillPair 13 = .ok (.getfield 16, 3) := by decide +kernel
theorem dX2_fillPair_16 : decode cX2_fillPair 16 = .ok (.imul, 1) := by decide +kernel
theorem dX2_fillPair_17 : decode cX2_fillPair 17 = .ok (.invokevirtual 34, 3) := by decide +kernel
theorem dX2_fillPair_20 : decode cX2_fillPair 20 = .ok (.lstore 4, 2) := by decide +kernel
theorem dX2_fillPair_22 : decode cX2_fillPair 22 = .ok (.aload_n 2, 1) := by decide +kernel
theorem dX2_fillPair_23 : decode cX2_fillPair 23 = .ok (.iconst 2, 1) := by decide +kernel
theorem dX2_fillPair_24 : decode cX2_fillPair 24 = .ok (.aload_n 0, 1) := by decide +kernel
theorem dX2_fillPair_25 : decode cX2_fillPair 25 = .ok (.getfield 16, 3) := by decide +kernel
theorem dX2_fillPair_28 : decode cX2_fillPair 28 = .ok (.imul, 1) := by decide +kernel
theorem dX2_fillPair_29 : decode cX2_fillPair 29 = .ok (.iconst 1, 1) := by decide +kernel
theorem dX2_fillPair_30 : decode cX2_fillPair 30 = .ok (.iadd, 1) := by decide +kernel
theorem dX2_fillPair_31 : decode cX2_fillPair 31 = .ok (.invokevirtual 34, 3) := by decide +kernel
theorem dX2_fillPair_34 : decode cX2_fillPair 34 = .ok (.lstore 6, 2) := by decide +kernel
theorem dX2_fillPair_36 : decode cX2_fillPair 36 = .ok (.iload_n 1, 1) := by decide +kernel
theorem dX2_fillPair_37 : decode cX2_fillPair 37 = .ok (.iconst 2, 1) := by decide +kernel
theorem dX2_fillPair_38 : decode cX2_fillPair 38 = .ok (.if_icmp .ne 7, 3) := by decide +kernel
theorem dX2_fillPair_41 : decode cX2_fillPair 41 = .ok (.iconst 1, 1) := by decide +kernel
theorem dX2_fillPair_42 : decode cX2_fillPair 42 = .ok (.goto 4, 3) := by decide +kernel
theorem dX2_fillPair_45 : decode cX2_fillPair 45 = .ok (.iconst 0, 1) := by decide +kernel
theorem dX2_fillPair_46 : decode cX2_fillPair 46 = .ok (.istore 8, 2) := by decide +kernel
theorem dX2_fillPair_48 : decode cX2_fillPair 48 = .ok (.aload_n 0, 1) := by decide +kernel
theorem dX2_fillPair_49 : decode cX2_fillPair 49 = .ok (.iload 8, 2) := by decide +kernel
theorem dX2_fillPair_51 : decode cX2_fillPair 51 = .ok (.ifCond .eq 8, 3) := by decide +kernel
theorem dX2_fillPair_54 : decode cX2_fillPair 54 = .ok (.lload 6, 2) := by decide +kernel
theorem dX2_fillPair_56 : decode cX2_fillPair 56 = .ok (.goto 5, 3) := by decide +kernel
theorem dX2_fillPair_59 : decode cX2_fillPair 59 = .ok (.lload 4, 2) := by decide +kernel
theorem dX2_fillPair_61 : decode cX2_fillPair 61 = .ok (.putfield 24, 3) := by decide +kernel
theorem dX2_fillPair_64 : decode cX2_fillPair 64 = .ok (.aload_n 0, 1) := by decide +kernel
theorem dX2_fillPair_65 : decode cX2_fillPair 65 = .ok (.iload 8, 2) := by decide +kernel
theorem dX2_fillPair_67 : decode cX2_fillPair 67 = .ok (.ifCond .eq 8, 3) := by decide +kernel
theorem dX2_fillPair_70 : decode cX2_fillPair 70 = .ok (.lload 4, 2) := by decide +kernel
theorem dX2_fillPair_72 : decode cX2_fillPair 72 = .ok (.goto 5, 3) := by decide +kernel
theorem dX2_fillPair_75 : decode cX2_fillPair 75 = .ok (.lload 6, 2) := by decide +kernel
theorem dX2_fillPair_77 : decode cX2_fillPair 77 = .ok (.putfield 28, 3) := by decide +kernel
theorem dX2_fillPair_80 : decode cX2_fillPair 80 = .ok (.iload_n 1, 1) := by decide +kernel
theorem dX2_fillPair_81 : decode cX2_fillPair 81 = .ok (.iconst 1, 1) := by decide +kernel
theorem dX2_fillPair_82 : decode cX2_fillPair 82 = .ok (.if_icmp .ne 13, 3) := by decide +kernel
theorem dX2_fillPair_85 : decode cX2_fillPair 85 = .ok (.aload_n 0, 1) := by decide +kernel
theorem dX2_fillPair_86 : decode cX2_fillPair 86 = .ok (.dup, 1) := by decide +kernel
theorem dX2_fillPair_87 : decode cX2_fillPair 87 = .ok (.getfield 24, 3) := by decide +kernel
theorem dX2_fillPair_90 : decode cX2_fillPair 90 = .ok (.lconst 1, 1) := by decide +kernel
theorem dX2_fillPair_91 : decode cX2_fillPair 91 = .ok (.lxor, 1) := by decide +kernel
theorem dX2_fillPair_92 : decode cX2_fillPair 92 = .ok (.putfield 24, 3) := by decide +kernel
theorem dX2_fillPair_95 : decode cX2_fillPair 95 = .ok (.aload_n 0, 1) := by decide +kernel
theorem dX2_fillPair_96 : decode cX2_fillPair 96 = .ok (.bipush 16, 2) := by decide +kernel
theorem dX2_fillPair_98 : decode cX2_fillPair 98 = .ok (.putfield 31, 3) := by decide +kernel
theorem dX2_fillPair_101 : decode cX2_fillPair 101 = .ok (.return_, 1) := by decide +kernel
set_option maxRecDepth 20000 in
theorem ggX2_fillLeaves_X4_copyBelow : GoodIn wsX2_fillLeaves wsX4_copyBelow := goodIn_r _ [9, 10, 11, 12, 8, 13, 14, 15, 16, 17, 18, 19, 20, 21, 22, 23, 24, 25, 26, 27, 28, 29, 68, 69] (by decide +kernel) (by decide +kernel)
set_option maxRecDepth 20000 in
theorem gX2_fillLeaves_X4_copyBelow : GoodIn wsX2_fillLeaves (wsV RX2 40 RX4 yX4_copyBelow wsX4_copyBelow) := goodIn_app (goodIn_of _ (by decide +kernel)) ggX2_fillLeaves_X4_copyBelow
set_option maxRecDepth 20000 in
theorem ggX2_fillLeaves_X2_turnFirst : GoodIn wsX2_fillLeaves wsX2_turnFirst := goodIn_r _ [34, 3, 1, 35, 36, 37, 8, 38, 10, 11, 12, 13, 14, 15, 16, 17, 18, 19, 39, 40, 41, 42, 43, 44, 45, 46, 47, 48, 49, 50, 20, 21, 22, 23, 24, 25, 26, 27, 28, 29, 62, 63, 64, 65, 66, 67, 68, 69] (by decide +kernel) (by decide +kernel)
set_option maxRecDepth 20000 in
theorem gX2_fillLeaves_X2_turnFirst : GoodIn wsX2_fillLeaves (wsV RX2 44 RX2 yX2_turnFirst wsX2_turnFirst) := goodIn_app (goodIn_of _ (by decide +kernel)) ggX2_fillLeaves_X2_turnFirst
set_option maxRecDepth 20000 in
theorem ggX2_fillLeaves_X4_lastFilled : GoodIn wsX2_fillLeaves wsX4_lastFilled := goodIn_r _ [54, 10, 11, 12, 8, 13, 17, 18, 19, 14, 15, 16, 68, 69] (by decide +kernel) (by decide +kernel)
set_option maxRecDepth 20000 in
theorem gX2_fillLeaves_X4_lastFilled : GoodIn wsX2_fillLeaves (wsV RX2 47 RX4 yX4_lastFilled wsX4_lastFilled) := goodIn_app (goodIn_of _ (by decide +kernel)) ggX2_fillLeaves_X4_lastFilled
set_option maxRecDepth 20000 in
theorem ggX2_fillLeaves_X4_put : GoodIn wsX2_fillLeaves wsX4_put := goodIn_r _ [50, 10, 44, 45, 8, 46, 20, 21, 22, 23, 24, 11, 12, 13, 17, 18, 19, 14, 15, 16, 25, 26, 27, 28, 29, 68, 69] (by decide +kernel) (by decide +kernel)
set_option maxRecDepth 20000 in
theorem gX2_fillLeaves_X4_put : GoodIn wsX2_fillLeaves (wsV RX2 51 RX4 yX4_put wsX4_put) := goodIn_app (goodIn_of _ (by decide +kernel)) ggX2_fillLeaves_X4_put
set_option maxRecDepth 20000 in
theorem ggX2_fillLeaves_X4_isLeaf : GoodIn wsX2_fillLeaves wsX4_isLeaf := goodIn_r _ [57] (by decide +kernel) (by decide +kernel)
set_option maxRecDepth 20000 in
theorem gX2_fillLeaves_X4_isLeaf : GoodIn wsX2_fillLeaves (va_wsS RX2 55 yX4_isLeaf wsX4_isLeaf) := goodIn_app (goodIn_of _ (by decide +kernel)) ggX2_fillLeaves_X4_isLeaf
set_option maxRecDepth 20000 in
theorem ggX2_fillLeaves_X4_filledBelow : GoodIn wsX2_fillLeaves wsX4_filledBelow := goodIn_r _ [61, 10, 11, 12, 8, 13, 14, 15, 16, 17, 18, 19, 68, 69] (by decide +kernel) (by decide +kernel)
set_option maxRecDepth 20000 in
theorem gX2_fillLeaves_X4_filledBelow : GoodIn wsX2_fillLeaves (wsV RX2 59 RX4 yX4_filledBelow wsX4_filledBelow) := goodIn_app (goodIn_of _ (by decide +kernel)) ggX2_fillLeaves_X4_filledBelow
theorem dX2_fillLeaves_0 : decode cX2_fillLeaves 0 = .ok (.aload_n 0, 1) := by decide +kernel
theorem dX2_fillLeaves_1 : decode cX2_fillLeaves 1 = .ok (.iload_n 3, 1) := by decide +kernel
theorem dX2_fillLeaves_2 : decode cX2_fillLeaves 2 = .ok (.putfield 16, 3) := by decide +kernel
theorem dX2_fillLeaves_5 : decode cX2_fillLeaves 5 = .ok (.aload_n 0, 1) := by decide +kernel
theorem dX2_fillLeaves_6 : decode cX2_fillLeaves 6 = .ok (.iconst 0, 1) := by decide +kernel
theorem dX2_fillLeaves_7 : decode cX2_fillLeaves 7 = .ok (.putfield 20, 3) := by decide +kernel
theorem dX2_fillLeaves_10 : decode cX2_fillLeaves 10 = .ok (.aload_n 0, 1) := by decide +kernel
theorem dX2_fillLeaves_11 : decode cX2_fillLeaves 11 = .ok (.getfield 10, 3) := by decide +kernel
theorem dX2_fillLeaves_14 : decode cX2_fillLeaves 14 = .ok (.aload_n 0, 1) := by decide +kernel
theorem dX2_fillLeaves_15 : decode cX2_fillLeaves 15 = .ok (.getfield 16, 3) := by decide +kernel
theorem dX2_fillLeaves_18 : decode cX2_fillLeaves 18 = .ok (.aload_n 2, 1) := by decide +kernel
theorem dX2_fillLeaves_19 : decode cX2_fillLeaves 19 = .ok (.invokevirtual 40, 3) := by decide +kernel
theorem dX2_fillLeaves_22 : decode cX2_fillLeaves 22 = .ok (.iload_n 1, 1) := by decide +kernel
theorem dX2_fillLeaves_23 : decode cX2_fillLeaves 23 = .ok (.iconst 1, 1) := by decide +kernel
theorem dX2_fillLeaves_24 : decode cX2_fillLeaves 24 = .ok (.if_icmp .ne 10, 3) := by decide +kernel
theorem dX2_fillLeaves_27 : decode cX2_fillLeaves 27 = .ok (.aload_n 0, 1) := by decide +kernel
theorem dX2_fillLeaves_28 : decode cX2_fillLeaves 28 = .ok (.invokevirtual 44, 3) := by decide +kernel
theorem dX2_fillLeaves_31 : decode cX2_fillLeaves 31 = .ok (.goto 27, 3) := by decide +kernel
theorem dX2_fillLeaves_34 : decode cX2_fillLeaves 34 = .ok (.iload_n 1, 1) := by decide +kernel
theorem dX2_fillLeaves_35 : decode cX2_fillLeaves 35 = .ok (.iconst 2, 1) := by decide +kernel
theorem dX2_fillLeaves_36 : decode cX2_fillLeaves 36 = .ok (.if_icmp .ne 22, 3) := by decide +kernel
theorem dX2_fillLeaves_39 : decode cX2_fillLeaves 39 = .ok (.aload_n 0, 1) := by decide +kernel
theorem dX2_fillLeaves_40 : decode cX2_fillLeaves 40 = .ok (.getfield 10, 3) := by decide +kernel
theorem dX2_fillLeaves_43 : decode cX2_fillLeaves 43 = .ok (.aload_n 0, 1) := by decide +kernel
theorem dX2_fillLeaves_44 : decode cX2_fillLeaves 44 = .ok (.getfield 10, 3) := by decide +kernel
theorem dX2_fillLeaves_47 : decode cX2_fillLeaves 47 = .ok (.aload_n 0, 1) := by decide +kernel
theorem dX2_fillLeaves_48 : decode cX2_fillLeaves 48 = .ok (.getfield 16, 3) := by decide +kernel
theorem dX2_fillLeaves_51 : decode cX2_fillLeaves 51 = .ok (.invokevirtual 47, 3) := by decide +kernel
theorem dX2_fillLeaves_54 : decode cX2_fillLeaves 54 = .ok (.lconst 0, 1) := by decide +kernel
theorem dX2_fillLeaves_55 : decode cX2_fillLeaves 55 = .ok (.invokevirtual 51, 3) := by decide +kernel
theorem dX2_fillLeaves_58 : decode cX2_fillLeaves 58 = .ok (.aload_n 0, 1) := by decide +kernel
theorem dX2_fillLeaves_59 : decode cX2_fillLeaves 59 = .ok (.aload_n 0, 1) := by decide +kernel
theorem dX2_fillLeaves_60 : decode cX2_fillLeaves 60 = .ok (.getfield 16, 3) := by decide +kernel
theorem dX2_fillLeaves_63 : decode cX2_fillLeaves 63 = .ok (.invokestatic 55, 3) := by decide +kernel
theorem dX2_fillLeaves_66 : decode cX2_fillLeaves 66 = .ok (.ifCond .eq 8, 3) := by decide +kernel
theorem dX2_fillLeaves_69 : decode cX2_fillLeaves 69 = .ok (.bipush 8, 2) := by decide +kernel
theorem dX2_fillLeaves_71 : decode cX2_fillLeaves 71 = .ok (.goto 19, 3) := by decide +kernel
theorem dX2_fillLeaves_74 : decode cX2_fillLeaves 74 = .ok (.iconst 4, 1) := by decide +kernel
theorem dX2_fillLeaves_75 : decode cX2_fillLeaves 75 = .ok (.bipush 12, 2) := by decide +kernel
theorem dX2_fillLeaves_77 : decode cX2_fillLeaves 77 = .ok (.aload_n 0, 1) := by decide +kernel
theorem dX2_fillLeaves_78 : decode cX2_fillLeaves 78 = .ok (.getfield 10, 3) := by decide +kernel
theorem dX2_fillLeaves_81 : decode cX2_fillLeaves 81 = .ok (.aload_n 0, 1) := by decide +kernel
theorem dX2_fillLeaves_82 : decode cX2_fillLeaves 82 = .ok (.getfield 16, 3) := by decide +kernel
theorem dX2_fillLeaves_85 : decode cX2_fillLeaves 85 = .ok (.invokevirtual 59, 3) := by decide +kernel
theorem dX2_fillLeaves_88 : decode cX2_fillLeaves 88 = .ok (.imul, 1) := by decide +kernel
theorem dX2_fillLeaves_89 : decode cX2_fillLeaves 89 = .ok (.iadd, 1) := by decide +kernel
theorem dX2_fillLeaves_90 : decode cX2_fillLeaves 90 = .ok (.putfield 31, 3) := by decide +kernel
theorem dX2_fillLeaves_93 : decode cX2_fillLeaves 93 = .ok (.return_, 1) := by decide +kernel
set_option maxRecDepth 20000 in
theorem ggX2_ownDigest_X4_mix : GoodIn wsX2_ownDigest wsX4_mix := goodIn_r _ [9, 10, 11] (by decide +kernel) (by decide +kernel)
set_option maxRecDepth 20000 in
theorem gX2_ownDigest_X4_mix : GoodIn wsX2_ownDigest (va_wsS RX2 62 yX4_mix wsX4_mix) := goodIn_app (goodIn_of _ (by decide +kernel)) ggX2_ownDigest_X4_mix
set_option maxRecDepth 20000 in
theorem ggX2_ownDigest_X4_digestOf : GoodIn wsX2_ownDigest wsX4_digestOf := goodIn_r _ [15, 16, 17, 18, 8, 19, 26, 27] (by decide +kernel) (by decide +kernel)
set_option maxRecDepth 20000 in
theorem gX2_ownDigest_X4_digestOf : GoodIn wsX2_ownDigest (wsV RX2 34 RX4 yX4_digestOf wsX4_digestOf) := goodIn_app (goodIn_of _ (by decide +kernel)) ggX2_ownDigest_X4_digestOf
theorem dX2_ownDigest_0 : decode cX2_ownDigest 0 = .ok (.aload_n 0, 1) := by decide +kernel
theorem dX2_ownDigest_1 : decode cX2_ownDigest 1 = .ok (.getfield 20, 3) := by decide +kernel
theorem dX2_ownDigest_4 : decode cX2_ownDigest 4 = .ok (.ifCond .eq 17, 3) := by decide +kernel
theorem dX2_ownDigest_7 : decode cX2_ownDigest 7 = .ok (.aload_n 0, 1) := by decide +kernel
theorem dX2_ownDigest_8 : decode cX2_ownDigest 8 = .ok (.getfield 24, 3) := by decide +kernel
theorem dX2_ownDigest_11 : decode cX2_ownDigest 11 = .ok (.aload_n 0, 1) := by decide +kernel
theorem dX2_ownDigest_12 : decode cX2_ownDigest 12 = .ok (.getfield 28, 3) := by decide +kernel
theorem dX2_ownDigest_15 : decode cX2_ownDigest 15 = .ok (.invokestatic 62, 3) := by decide +kernel
theorem dX2_ownDigest_18 : decode cX2_ownDigest 18 = .ok (.goto 14, 3) := by decide +kernel
theorem dX2_ownDigest_21 : decode cX2_ownDigest 21 = .ok (.aload_n 0, 1) := by decide +kernel
theorem dX2_ownDigest_22 : decode cX2_ownDigest 22 = .ok (.getfield 10, 3) := by decide +kernel
theorem dX2_ownDigest_25 : decode cX2_ownDigest 25 = .ok (.aload_n 0, 1) := by decide +kernel
theorem dX2_ownDigest_26 : decode cX2_ownDigest 26 = .ok (.getfield 16, 3) := by decide +kernel
theorem dX2_ownDigest_29 : decode cX2_ownDigest 29 = .ok (.invokevirtual 34, 3) := by decide +kernel
theorem dX2_ownDigest_32 : decode cX2_ownDigest 32 = .ok (.lreturn, 1) := by decide +kernel
set_option maxRecDepth 20000 in
theorem ggX2_turnFirst_X4_firstFilled : GoodIn wsX2_turnFirst wsX4_firstFilled := goodIn_r _ [7, 8, 9, 10, 6, 11, 12, 13, 14, 15, 16, 17, 46, 47] (by decide +kernel) (by decide +kernel)
set_option maxRecDepth 20000 in
theorem gX2_turnFirst_X4_firstFilled : GoodIn wsX2_turnFirst (wsV RX2 66 RX4 yX4_firstFilled wsX4_firstFilled) := goodIn_app (goodIn_of _ (by decide +kernel)) ggX2_turnFirst_X4_firstFilled
set_option maxRecDepth 20000 in
theorem ggX2_turnFirst_X4_firstPath : GoodIn wsX2_turnFirst wsX4_firstPath := goodIn_r _ [17] (by decide +kernel) (by decide +kernel)
set_option maxRecDepth 20000 in
theorem gX2_turnFirst_X4_firstPath : GoodIn wsX2_turnFirst (va_wsS RX2 69 yX4_firstPath wsX4_firstPath) := goodIn_app (goodIn_of _ (by decide +kernel)) ggX2_turnFirst_X4_firstPath
set_option maxRecDepth 20000 in
theorem ggX2_turnFirst_X4_valueOf : GoodIn wsX2_turnFirst wsX4_valueOf := goodIn_r _ [22, 8, 23, 24, 6, 25, 46, 47] (by decide +kernel) (by decide +kernel)
set_option maxRecDepth 20000 in
theorem gX2_turnFirst_X4_valueOf : GoodIn wsX2_turnFirst (wsV RX2 72 RX4 yX4_valueOf wsX4_valueOf) := goodIn_app (goodIn_of _ (by decide +kernel)) ggX2_turnFirst_X4_valueOf
set_option maxRecDepth 20000 in
theorem ggX2_turnFirst_X4_put : GoodIn wsX2_turnFirst wsX4_put := goodIn_r _ [29, 8, 23, 24, 6, 25, 30, 31, 32, 33, 34, 9, 10, 11, 15, 16, 17, 12, 13, 14, 35, 36, 37, 38, 39, 46, 47] (by decide +kernel) (by decide +kernel)
set_option maxRecDepth 20000 in
theorem gX2_turnFirst_X4_put : GoodIn wsX2_turnFirst (wsV RX2 51 RX4 yX4_put wsX4_put) := goodIn_app (goodIn_of _ (by decide +kernel)) ggX2_turnFirst_X4_put
theorem dX2_turnFirst_0 : decode cX2_turnFirst 0 = .ok (.aload_n 0, 1) := by decide +kernel
theorem dX2_turnFirst_1 : decode cX2_turnFirst 1 = .ok (.getfield 10, 3) := by decide +kernel
theorem dX2_turnFirst_4 : decode cX2_turnFirst 4 = .ok (.aload_n 0, 1) := by decide +kernel
theorem dX2_turnFirst_5 : decode cX2_turnFirst 5 = .ok (.getfield 16, 3) := by decide +kernel
theorem dX2_turnFirst_8 : decode cX2_turnFirst 8 = .ok (.invokevirtual 66, 3) := by decide +kernel
theorem dX2_turnFirst_11 : decode cX2_turnFirst 11 = .ok (.istore_n 1, 1) := by decide +kernel
theorem dX2_turnFirst_12 : decode cX2_turnFirst 12 = .ok (.iload_n 1, 1) := by decide +kernel
theorem dX2_turnFirst_13 : decode cX2_turnFirst 13 = .ok (.iconst (-1), 1) := by decide +kernel
theorem dX2_turnFirst_14 : decode cX2_turnFirst 14 = .ok (.if_icmp .ne 13, 3) := by decide +kernel
theorem dX2_turnFirst_17 : decode cX2_turnFirst 17 = .ok (.aload_n 0, 1) := by decide +kernel
theorem dX2_turnFirst_18 : decode cX2_turnFirst 18 = .ok (.getfield 16, 3) := by decide +kernel
theorem dX2_turnFirst_21 : decode cX2_turnFirst 21 = .ok (.invokestatic 69, 3) := by decide +kernel
theorem dX2_turnFirst_24 : decode cX2_turnFirst 24 = .ok (.goto 4, 3) := by decide +kernel
theorem dX2_turnFirst_27 : decode cX2_turnFirst 27 = .ok (.iload_n 1, 1) := by decide +kernel
theorem dX2_turnFirst_28 : decode cX2_turnFirst 28 = .ok (.istore_n 2, 1) := by decide +kernel
theorem dX2_turnFirst_29 : decode cX2_turnFirst 29 = .ok (.aload_n 0, 1) := by decide +kernel
theorem dX2_turnFirst_30 : decode cX2_turnFirst 30 = .ok (.getfield 10, 3) := by decide +kernel
theorem dX2_turnFirst_33 : decode cX2_turnFirst 33 = .ok (.iload_n 2, 1) := by decide +kernel
theorem dX2_turnFirst_34 : decode cX2_turnFirst 34 = .ok (.aload_n 0, 1) := by decide +kernel
theorem dX2_turnFirst_35 : decode cX2_turnFirst 35 = .ok (.getfield 10, 3) := by decide +kernel
theorem dX2_turnFirst_38 : decode cX2_turnFirst 38 = .ok (.iload_n 2, 1) := by decide +kernel
theorem dX2_turnFirst_39 : decode cX2_turnFirst 39 = .ok (.invokevirtual 72, 3) := by decide +kernel
theorem dX2_turnFirst_42 : decode cX2_turnFirst 42 = .ok (.lconst 1, 1) := by decide +kernel
theorem dX2_turnFirst_43 : decode cX2_turnFirst 43 = .ok (.lxor, 1) := by decide +kernel
theorem dX2_turnFirst_44 : decode cX2_turnFirst 44 = .ok (.invokevirtual 51, 3) := by decide +kernel
theorem dX2_turnFirst_47 : decode cX2_turnFirst 47 = .ok (.return_, 1) := by decide +kernel
theorem dX3_init_0 : decode cX3_init 0 = .ok (.aload_n 0, 1) := by decide +kernel
theorem dX3_init_1 : decode cX3_init 1 = .ok (.invokespecial 3, 3) := by decide +kernel
theorem dX3_init_4 : decode cX3_init 4 = .ok (.aload_n 0, 1) := by decide +kernel
theorem dX3_init_5 : decode cX3_init 5 = .ok (.sipush 201, 3) := by decide +kernel
theorem dX3_init_8 : decode cX3_init 8 = .ok (.newarray .int, 2) := by decide +kernel
theorem dX3_init_10 : decode cX3_init 10 = .ok (.putfield 9, 3) := by decide +kernel
theorem dX3_init_13 : decode cX3_init 13 = .ok (.aload_n 0, 1) := by decide +kernel
theorem dX3_init_14 : decode cX3_init 14 = .ok (.sipush 201, 3) := by decide +kernel
theorem dX3_init_17 : decode cX3_init 17 = .ok (.newarray .long, 2) := by decide +kernel
