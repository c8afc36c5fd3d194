theorem dX6_giver_22 : decode cX6_giver 22 = .ok (.aload_n 0, 1) := by decide +kernel
theorem dX6_giver_23 : decode cX6_giver 23 = .ok (.getfield 81, 3) := by decide +kernel
theorem dX6_giver_26 : decode cX6_giver 26 = .ok (.bipush 12, 2) := by decide +kernel
theorem dX6_giver_28 : decode cX6_giver 28 = .ok (.if_icmp .ne 6, 3) := by decide +kernel
theorem dX6_giver_31 : decode cX6_giver 31 = .ok (.bipush (-2), 2) := by decide +kernel
theorem dX6_giver_33 : decode cX6_giver 33 = .ok (.ireturn, 1) := by decide +kernel
theorem dX6_giver_34 : decode cX6_giver 34 = .ok (.aload_n 0, 1) := by decide +kernel
theorem dX6_giver_35 : decode cX6_giver 35 = .ok (.getfield 17, 3) := by decide +kernel
theorem dX6_giver_38 : decode cX6_giver 38 = .ok (.aload_n 0, 1) := by decide +kernel
theorem dX6_giver_39 : decode cX6_giver 39 = .ok (.getfield 81, 3) := by decide +kernel
theorem dX6_giver_42 : decode cX6_giver 42 = .ok (.iload_n 1, 1) := by decide +kernel
theorem dX6_giver_43 : decode cX6_giver 43 = .ok (.iastore, 1) := by decide +kernel
theorem dX6_giver_44 : decode cX6_giver 44 = .ok (.aload_n 0, 1) := by decide +kernel
theorem dX6_giver_45 : decode cX6_giver 45 = .ok (.getfield 20, 3) := by decide +kernel
theorem dX6_giver_48 : decode cX6_giver 48 = .ok (.aload_n 0, 1) := by decide +kernel
theorem dX6_giver_49 : decode cX6_giver 49 = .ok (.getfield 81, 3) := by decide +kernel
theorem dX6_giver_52 : decode cX6_giver 52 = .ok (.iload_n 2, 1) := by decide +kernel
theorem dX6_giver_53 : decode cX6_giver 53 = .ok (.iastore, 1) := by decide +kernel
theorem dX6_giver_54 : decode cX6_giver 54 = .ok (.aload_n 0, 1) := by decide +kernel
theorem dX6_giver_55 : decode cX6_giver 55 = .ok (.dup, 1) := by decide +kernel
theorem dX6_giver_56 : decode cX6_giver 56 = .ok (.getfield 81, 3) := by decide +kernel
theorem dX6_giver_59 : decode cX6_giver 59 = .ok (.iconst 1, 1) := by decide +kernel
theorem dX6_giver_60 : decode cX6_giver 60 = .ok (.iadd, 1) := by decide +kernel
theorem dX6_giver_61 : decode cX6_giver 61 = .ok (.putfield 81, 3) := by decide +kernel
theorem dX6_giver_64 : decode cX6_giver 64 = .ok (.aload_n 0, 1) := by decide +kernel
theorem dX6_giver_65 : decode cX6_giver 65 = .ok (.getfield 81, 3) := by decide +kernel
theorem dX6_giver_68 : decode cX6_giver 68 = .ok (.iconst 1, 1) := by decide +kernel
theorem dX6_giver_69 : decode cX6_giver 69 = .ok (.isub, 1) := by decide +kernel
theorem dX6_giver_70 : decode cX6_giver 70 = .ok (.ireturn, 1) := by decide +kernel
set_option maxRecDepth 20000 in
theorem ggX6_faults_X6_in : GoodIn wsX6_faults wsX6_in := goodIn_r _ [6] (by decide +kernel) (by decide +kernel)
set_option maxRecDepth 20000 in
theorem gX6_faults_X6_in : GoodIn wsX6_faults (va_wsS RX6 66 yX6_in wsX6_in) := goodIn_app (goodIn_of _ (by decide +kernel)) ggX6_faults_X6_in
theorem dX6_faults_0 : decode cX6_faults 0 = .ok (.iload_n 1, 1) := by decide +kernel
theorem dX6_faults_1 : decode cX6_faults 1 = .ok (.iconst 0, 1) := by decide +kernel
theorem dX6_faults_2 : decode cX6_faults 2 = .ok (.aload_n 0, 1) := by decide +kernel
theorem dX6_faults_3 : decode cX6_faults 3 = .ok (.getfield 81, 3) := by decide +kernel
theorem dX6_faults_6 : decode cX6_faults 6 = .ok (.iconst 1, 1) := by decide +kernel
theorem dX6_faults_7 : decode cX6_faults 7 = .ok (.isub, 1) := by decide +kernel
theorem dX6_faults_8 : decode cX6_faults 8 = .ok (.invokestatic 66, 3) := by decide +kernel
theorem dX6_faults_11 : decode cX6_faults 11 = .ok (.ifCond .eq 12, 3) := by decide +kernel
theorem dX6_faults_14 : decode cX6_faults 14 = .ok (.aload_n 0, 1) := by decide +kernel
theorem dX6_faults_15 : decode cX6_faults 15 = .ok (.getfield 26, 3) := by decide +kernel
theorem dX6_faults_18 : decode cX6_faults 18 = .ok (.iload_n 1, 1) := by decide +kernel
theorem dX6_faults_19 : decode cX6_faults 19 = .ok (.iaload, 1) := by decide +kernel
theorem dX6_faults_20 : decode cX6_faults 20 = .ok (.goto 4, 3) := by decide +kernel
theorem dX6_faults_23 : decode cX6_faults 23 = .ok (.iconst (-1), 1) := by decide +kernel
theorem dX6_faults_24 : decode cX6_faults 24 = .ok (.ireturn, 1) := by decide +kernel
set_option maxRecDepth 20000 in
theorem ggX6_named_X6_in : GoodIn wsX6_named wsX6_in := goodIn_r _ [6] (by decide +kernel) (by decide +kernel)
set_option maxRecDepth 20000 in
theorem gX6_named_X6_in : GoodIn wsX6_named (va_wsS RX6 66 yX6_in wsX6_in) := goodIn_app (goodIn_of _ (by decide +kernel)) ggX6_named_X6_in
theorem dX6_named_0 : decode cX6_named 0 = .ok (.iload_n 1, 1) := by decide +kernel
theorem dX6_named_1 : decode cX6_named 1 = .ok (.iconst 0, 1) := by decide +kernel
theorem dX6_named_2 : decode cX6_named 2 = .ok (.aload_n 0, 1) := by decide +kernel
theorem dX6_named_3 : decode cX6_named 3 = .ok (.getfield 84, 3) := by decide +kernel
theorem dX6_named_6 : decode cX6_named 6 = .ok (.iconst 1, 1) := by decide +kernel
theorem dX6_named_7 : decode cX6_named 7 = .ok (.isub, 1) := by decide +kernel
theorem dX6_named_8 : decode cX6_named 8 = .ok (.invokestatic 66, 3) := by decide +kernel
theorem dX6_named_11 : decode cX6_named 11 = .ok (.ifCond .eq 12, 3) := by decide +kernel
theorem dX6_named_14 : decode cX6_named 14 = .ok (.aload_n 0, 1) := by decide +kernel
theorem dX6_named_15 : decode cX6_named 15 = .ok (.getfield 29, 3) := by decide +kernel
theorem dX6_named_18 : decode cX6_named 18 = .ok (.iload_n 1, 1) := by decide +kernel
theorem dX6_named_19 : decode cX6_named 19 = .ok (.iaload, 1) := by decide +kernel
theorem dX6_named_20 : decode cX6_named 20 = .ok (.goto 4, 3) := by decide +kernel
theorem dX6_named_23 : decode cX6_named 23 = .ok (.iconst (-1), 1) := by decide +kernel
theorem dX6_named_24 : decode cX6_named 24 = .ok (.ireturn, 1) := by decide +kernel
theorem dX6_firstOf_0 : decode cX6_firstOf 0 = .ok (.iload_n 0, 1) := by decide +kernel
theorem dX6_firstOf_1 : decode cX6_firstOf 1 = .ok (.istore_n 1, 1) := by decide +kernel
theorem dX6_firstOf_2 : decode cX6_firstOf 2 = .ok (.iload_n 1, 1) := by decide +kernel
theorem dX6_firstOf_3 : decode cX6_firstOf 3 = .ok (.bipush 64, 2) := by decide +kernel
theorem dX6_firstOf_5 : decode cX6_firstOf 5 = .ok (.if_icmp .ge 10, 3) := by decide +kernel
theorem dX6_firstOf_8 : decode cX6_firstOf 8 = .ok (.iconst 2, 1) := by decide +kernel
theorem dX6_firstOf_9 : decode cX6_firstOf 9 = .ok (.iload_n 1, 1) := by decide +kernel
theorem dX6_firstOf_10 : decode cX6_firstOf 10 = .ok (.imul, 1) := by decide +kernel
theorem dX6_firstOf_11 : decode cX6_firstOf 11 = .ok (.istore_n 1, 1) := by decide +kernel
theorem dX6_firstOf_12 : decode cX6_firstOf 12 = .ok (.goto (-10), 3) := by decide +kernel
theorem dX6_firstOf_15 : decode cX6_firstOf 15 = .ok (.iload_n 1, 1) := by decide +kernel
theorem dX6_firstOf_16 : decode cX6_firstOf 16 = .ok (.bipush 64, 2) := by decide +kernel
theorem dX6_firstOf_18 : decode cX6_firstOf 18 = .ok (.isub, 1) := by decide +kernel
theorem dX6_firstOf_19 : decode cX6_firstOf 19 = .ok (.ireturn, 1) := by decide +kernel
theorem dX6_lastOf_0 : decode cX6_lastOf 0 = .ok (.iload_n 0, 1) := by decide +kernel
theorem dX6_lastOf_1 : decode cX6_lastOf 1 = .ok (.istore_n 1, 1) := by decide +kernel
theorem dX6_lastOf_2 : decode cX6_lastOf 2 = .ok (.iload_n 1, 1) := by decide +kernel
theorem dX6_lastOf_3 : decode cX6_lastOf 3 = .ok (.bipush 64, 2) := by decide +kernel
theorem dX6_lastOf_5 : decode cX6_lastOf 5 = .ok (.if_icmp .ge 12, 3) := by decide +kernel
theorem dX6_lastOf_8 : decode cX6_lastOf 8 = .ok (.iconst 2, 1) := by decide +kernel
theorem dX6_lastOf_9 : decode cX6_lastOf 9 = .ok (.iload_n 1, 1) := by decide +kernel
theorem dX6_lastOf_10 : decode cX6_lastOf 10 = .ok (.imul, 1) := by decide +kernel
theorem dX6_lastOf_11 : decode cX6_lastOf 11 = .ok (.iconst 1, 1) := by decide +kernel
theorem dX6_lastOf_12 : decode cX6_lastOf 12 = .ok (.iadd, 1) := by decide +kernel
theorem dX6_lastOf_13 : decode cX6_lastOf 13 = .ok (.istore_n 1, 1) := by decide +kernel
theorem dX6_lastOf_14 : decode cX6_lastOf 14 = .ok (.goto (-12), 3) := by decide +kernel
theorem dX6_lastOf_17 : decode cX6_lastOf 17 = .ok (.iload_n 1, 1) := by decide +kernel
theorem dX6_lastOf_18 : decode cX6_lastOf 18 = .ok (.bipush 64, 2) := by decide +kernel
theorem dX6_lastOf_20 : decode cX6_lastOf 20 = .ok (.isub, 1) := by decide +kernel
theorem dX6_lastOf_21 : decode cX6_lastOf 21 = .ok (.ireturn, 1) := by decide +kernel
set_option maxRecDepth 20000 in
theorem ggX6_know_X6_firstOf : GoodIn wsX6_know wsX6_firstOf := goodIn_r _ [7] (by decide +kernel) (by decide +kernel)
set_option maxRecDepth 20000 in
theorem gX6_know_X6_firstOf : GoodIn wsX6_know (va_wsS RX6 87 yX6_firstOf wsX6_firstOf) := goodIn_app (goodIn_of _ (by decide +kernel)) ggX6_know_X6_firstOf
set_option maxRecDepth 20000 in
theorem ggX6_know_X6_lastOf : GoodIn wsX6_know wsX6_lastOf := goodIn_r _ [10] (by decide +kernel) (by decide +kernel)
set_option maxRecDepth 20000 in
theorem gX6_know_X6_lastOf : GoodIn wsX6_know (va_wsS RX6 91 yX6_lastOf wsX6_lastOf) := goodIn_app (goodIn_of _ (by decide +kernel)) ggX6_know_X6_lastOf
theorem dX6_know_0 : decode cX6_know 0 = .ok (.aload_n 0, 1) := by decide +kernel
theorem dX6_know_1 : decode cX6_know 1 = .ok (.getfield 39, 3) := by decide +kernel
theorem dX6_know_4 : decode cX6_know 4 = .ok (.iload_n 1, 1) := by decide +kernel
theorem dX6_know_5 : decode cX6_know 5 = .ok (.iconst 1, 1) := by decide +kernel
theorem dX6_know_6 : decode cX6_know 6 = .ok (.bastore, 1) := by decide +kernel
theorem dX6_know_7 : decode cX6_know 7 = .ok (.aload_n 0, 1) := by decide +kernel
theorem dX6_know_8 : decode cX6_know 8 = .ok (.getfield 43, 3) := by decide +kernel
theorem dX6_know_11 : decode cX6_know 11 = .ok (.iload_n 1, 1) := by decide +kernel
theorem dX6_know_12 : decode cX6_know 12 = .ok (.lload_n 2, 1) := by decide +kernel
theorem dX6_know_13 : decode cX6_know 13 = .ok (.lastore, 1) := by decide +kernel
theorem dX6_know_14 : decode cX6_know 14 = .ok (.lload_n 2, 1) := by decide +kernel
theorem dX6_know_15 : decode cX6_know 15 = .ok (.lconst 0, 1) := by decide +kernel
theorem dX6_know_16 : decode cX6_know 16 = .ok (.lcmp, 1) := by decide +kernel
theorem dX6_know_17 : decode cX6_know 17 = .ok (.ifCond .ne 32, 3) := by decide +kernel
theorem dX6_know_20 : decode cX6_know 20 = .ok (.iload_n 1, 1) := by decide +kernel
theorem dX6_know_21 : decode cX6_know 21 = .ok (.invokestatic 87, 3) := by decide +kernel
theorem dX6_know_24 : decode cX6_know 24 = .ok (.istore 4, 2) := by decide +kernel
theorem dX6_know_26 : decode cX6_know 26 = .ok (.iload 4, 2) := by decide +kernel
theorem dX6_know_28 : decode cX6_know 28 = .ok (.iload_n 1, 1) := by decide +kernel
theorem dX6_know_29 : decode cX6_know 29 = .ok (.invokestatic 91, 3) := by decide +kernel
theorem dX6_know_32 : decode cX6_know 32 = .ok (.if_icmp .gt 17, 3) := by decide +kernel
theorem dX6_know_35 : decode cX6_know 35 = .ok (.aload_n 0, 1) := by decide +kernel
theorem dX6_know_36 : decode cX6_know 36 = .ok (.getfield 36, 3) := by decide +kernel
theorem dX6_know_39 : decode cX6_know 39 = .ok (.iload 4, 2) := by decide +kernel
theorem dX6_know_41 : decode cX6_know 41 = .ok (.lconst 0, 1) := by decide +kernel
theorem dX6_know_42 : decode cX6_know 42 = .ok (.lastore, 1) := by decide +kernel
theorem dX6_know_43 : decode cX6_know 43 = .ok (.iinc 4 1, 3) := by decide +kernel
theorem dX6_know_46 : decode cX6_know 46 = .ok (.goto (-20), 3) := by decide +kernel
theorem dX6_know_49 : decode cX6_know 49 = .ok (.return_, 1) := by decide +kernel
theorem dX6_lacks_0 : decode cX6_lacks 0 = .ok (.aload_n 0, 1) := by decide +kernel
theorem dX6_lacks_1 : decode cX6_lacks 1 = .ok (.getfield 39, 3) := by decide +kernel
theorem dX6_lacks_4 : decode cX6_lacks 4 = .ok (.iload_n 1, 1) := by decide +kernel
theorem dX6_lacks_5 : decode cX6_lacks 5 = .ok (.baload, 1) := by decide +kernel
theorem dX6_lacks_6 : decode cX6_lacks 6 = .ok (.ifCond .eq 53, 3) := by decide +kernel
theorem dX6_lacks_9 : decode cX6_lacks 9 = .ok (.aload_n 0, 1) := by decide +kernel
theorem dX6_lacks_10 : decode cX6_lacks 10 = .ok (.getfield 52, 3) := by decide +kernel
theorem dX6_lacks_13 : decode cX6_lacks 13 = .ok (.iload_n 1, 1) := by decide +kernel
theorem dX6_lacks_14 : decode cX6_lacks 14 = .ok (.laload, 1) := by decide +kernel
theorem dX6_lacks_15 : decode cX6_lacks 15 = .ok (.aload_n 0, 1) := by decide +kernel
theorem dX6_lacks_16 : decode cX6_lacks 16 = .ok (.getfield 43, 3) := by decide +kernel
theorem dX6_lacks_19 : decode cX6_lacks 19 = .ok (.iload_n 1, 1) := by decide +kernel
theorem dX6_lacks_20 : decode cX6_lacks 20 = .ok (.laload, 1) := by decide +kernel
theorem dX6_lacks_21 : decode cX6_lacks 21 = .ok (.lcmp, 1) := by decide +kernel
theorem dX6_lacks_22 : decode cX6_lacks 22 = .ok (.ifCond .eq 37, 3) := by decide +kernel
theorem dX6_lacks_25 : decode cX6_lacks 25 = .ok (.iload_n 1, 1) := by decide +kernel
theorem dX6_lacks_26 : decode cX6_lacks 26 = .ok (.bipush 63, 2) := by decide +kernel
theorem dX6_lacks_28 : decode cX6_lacks 28 = .ok (.if_icmp .gt 27, 3) := by decide +kernel
theorem dX6_lacks_31 : decode cX6_lacks 31 = .ok (.aload_n 0, 1) := by decide +kernel
theorem dX6_lacks_32 : decode cX6_lacks 32 = .ok (.getfield 39, 3) := by decide +kernel
theorem dX6_lacks_35 : decode cX6_lacks 35 = .ok (.iconst 2, 1) := by decide +kernel
theorem dX6_lacks_36 : decode cX6_lacks 36 = .ok (.iload_n 1, 1) := by decide +kernel
theorem dX6_lacks_37 : decode cX6_lacks 37 = .ok (.imul, 1) := by decide +kernel
theorem dX6_lacks_38 : decode cX6_lacks 38 = .ok (.baload, 1) := by decide +kernel
theorem dX6_lacks_39 : decode cX6_lacks 39 = .ok (.ifCond .ne 20, 3) := by decide +kernel
theorem dX6_lacks_42 : decode cX6_lacks 42 = .ok (.aload_n 0, 1) := by decide +kernel
theorem dX6_lacks_43 : decode cX6_lacks 43 = .ok (.getfield 39, 3) := by decide +kernel
theorem dX6_lacks_46 : decode cX6_lacks 46 = .ok (.iconst 2, 1) := by decide +kernel
theorem dX6_lacks_47 : decode cX6_lacks 47 = .ok (.iload_n 1, 1) := by decide +kernel
theorem dX6_lacks_48 : decode cX6_lacks 48 = .ok (.imul, 1) := by decide +kernel
theorem dX6_lacks_49 : decode cX6_lacks 49 = .ok (.iconst 1, 1) := by decide +kernel
theorem dX6_lacks_50 : decode cX6_lacks 50 = .ok (.iadd, 1) := by decide +kernel
theorem dX6_lacks_51 : decode cX6_lacks 51 = .ok (.baload, 1) := by decide +kernel
theorem dX6_lacks_52 : decode cX6_lacks 52 = .ok (.ifCond .ne 7, 3) := by decide +kernel
theorem dX6_lacks_55 : decode cX6_lacks 55 = .ok (.iconst 1, 1) := by decide +kernel
theorem dX6_lacks_56 : decode cX6_lacks 56 = .ok (.goto 4, 3) := by decide +kernel
theorem dX6_lacks_59 : decode cX6_lacks 59 = .ok (.iconst 0, 1) := by decide +kernel
theorem dX6_lacks_60 : decode cX6_lacks 60 = .ok (.ireturn, 1) := by decide +kernel
set_option maxRecDepth 20000 in
theorem ggX6_lacking_X6_build : GoodIn wsX6_lacking wsX6_build := goodIn_r _ [6, 7, 8, 9, 10, 5, 11, 12, 13, 20, 21, 22, 23, 24, 25, 26, 27, 28, 29, 30, 31, 32, 33, 34, 35, 36, 37, 38, 39] (by decide +kernel) (by decide +kernel)
set_option maxRecDepth 20000 in
theorem gX6_lacking_X6_build : GoodIn wsX6_lacking (wsV RX6 77 RX6 yX6_build wsX6_build) := goodIn_app (goodIn_of _ (by decide +kernel)) ggX6_lacking_X6_build
set_option maxRecDepth 20000 in
theorem ggX6_lacking_X6_lacks : GoodIn wsX6_lacking wsX6_lacks := goodIn_r _ [17, 18, 8, 19, 20, 21, 22, 23, 24, 25, 26, 27, 28, 29, 30, 31, 32, 33, 34, 35, 36, 37, 38, 39] (by decide +kernel) (by decide +kernel)
set_option maxRecDepth 20000 in
theorem gX6_lacking_X6_lacks : GoodIn wsX6_lacking (wsV RX6 94 RX6 yX6_lacks wsX6_lacks) := goodIn_app (goodIn_of _ (by decide +kernel)) ggX6_lacking_X6_lacks
theorem dX6_lacking_0 : decode cX6_lacking 0 = .ok (.aload_n 0, 1) := by decide +kernel
theorem dX6_lacking_1 : decode cX6_lacking 1 = .ok (.aload_n 0, 1) := by decide +kernel
theorem dX6_lacking_2 : decode cX6_lacking 2 = .ok (.getfield 36, 3) := by decide +kernel
theorem dX6_lacking_5 : decode cX6_lacking 5 = .ok (.invokevirtual 77, 3) := by decide +kernel
theorem dX6_lacking_8 : decode cX6_lacking 8 = .ok (.iconst 0, 1) := by decide +kernel
theorem dX6_lacking_9 : decode cX6_lacking 9 = .ok (.istore_n 1, 1) := by decide +kernel
theorem dX6_lacking_10 : decode cX6_lacking 10 = .ok (.iconst 1, 1) := by decide +kernel
theorem dX6_lacking_11 : decode cX6_lacking 11 = .ok (.istore_n 2, 1) := by decide +kernel
theorem dX6_lacking_12 : decode cX6_lacking 12 = .ok (.iload_n 2, 1) := by decide +kernel
theorem dX6_lacking_13 : decode cX6_lacking 13 = .ok (.sipush 128, 3) := by decide +kernel
theorem dX6_lacking_16 : decode cX6_lacking 16 = .ok (.if_icmp .ge 25, 3) := by decide +kernel
theorem dX6_lacking_19 : decode cX6_lacking 19 = .ok (.aload_n 0, 1) := by decide +kernel
theorem dX6_lacking_20 : decode cX6_lacking 20 = .ok (.iload_n 2, 1) := by decide +kernel
theorem dX6_lacking_21 : decode cX6_lacking 21 = .ok (.invokevirtual 94, 3) := by decide +kernel
theorem dX6_lacking_24 : decode cX6_lacking 24 = .ok (.ifCond .eq 9, 3) := by decide +kernel
theorem dX6_lacking_27 : decode cX6_lacking 27 = .ok (.iload_n 1, 1) := by decide +kernel
theorem dX6_lacking_28 : decode cX6_lacking 28 = .ok (.iconst 1, 1) := by decide +kernel
theorem dX6_lacking_29 : decode cX6_lacking 29 = .ok (.iadd, 1) := by decide +kernel
theorem dX6_lacking_30 : decode cX6_lacking 30 = .ok (.goto 4, 3) := by decide +kernel
theorem dX6_lacking_33 : decode cX6_lacking 33 = .ok (.iload_n 1, 1) := by decide +kernel
theorem dX6_lacking_34 : decode cX6_lacking 34 = .ok (.istore_n 1, 1) := by decide +kernel
theorem dX6_lacking_35 : decode cX6_lacking 35 = .ok (.iinc 2 1, 3) := by decide +kernel
theorem dX6_lacking_38 : decode cX6_lacking 38 = .ok (.goto (-26), 3) := by decide +kernel
theorem dX6_lacking_41 : decode cX6_lacking 41 = .ok (.iload_n 1, 1) := by decide +kernel
theorem dX6_lacking_42 : decode cX6_lacking 42 = .ok (.ireturn, 1) := by decide +kernel
set_option maxRecDepth 20000 in
theorem ggX6_missing_X6_build : GoodIn wsX6_missing wsX6_build := goodIn_r _ [6, 7, 8, 9, 10, 5, 11, 12, 13, 20, 21, 22, 23, 24, 25, 26, 27, 28, 29, 30, 31, 32, 33, 34, 35, 36, 37, 38, 39] (by decide +kernel) (by decide +kernel)
set_option maxRecDepth 20000 in
theorem gX6_missing_X6_build : GoodIn wsX6_missing (wsV RX6 77 RX6 yX6_build wsX6_build) := goodIn_app (goodIn_of _ (by decide +kernel)) ggX6_missing_X6_build
set_option maxRecDepth 20000 in
theorem ggX6_missing_X6_lacks : GoodIn wsX6_missing wsX6_lacks := goodIn_r _ [17, 18, 8, 19, 20, 21, 22, 23, 24, 25, 26, 27, 28, 29, 30, 31, 32, 33, 34, 35, 36, 37, 38, 39] (by decide +kernel) (by decide +kernel)
set_option maxRecDepth 20000 in
theorem gX6_missing_X6_lacks : GoodIn wsX6_missing (wsV RX6 94 RX6 yX6_lacks wsX6_lacks) := goodIn_app (goodIn_of _ (by decide +kernel)) ggX6_missing_X6_lacks
theorem dX6_missing_0 : decode cX6_missing 0 = .ok (.aload_n 0, 1) := by decide +kernel
theorem dX6_missing_1 : decode cX6_missing 1 = .ok (.aload_n 0, 1) := by decide +kernel
theorem dX6_missing_2 : decode cX6_missing 2 = .ok (.getfield 36, 3) := by decide +kernel
theorem dX6_missing_5 : decode cX6_missing 5 = .ok (.invokevirtual 77, 3) := by decide +kernel
theorem dX6_missing_8 : decode cX6_missing 8 = .ok (.iload_n 1, 1) := by decide +kernel
theorem dX6_missing_9 : decode cX6_missing 9 = .ok (.istore_n 2, 1) := by decide +kernel
theorem dX6_missing_10 : decode cX6_missing 10 = .ok (.iconst 1, 1) := by decide +kernel
theorem dX6_missing_11 : decode cX6_missing 11 = .ok (.istore_n 3, 1) := by decide +kernel
theorem dX6_missing_12 : decode cX6_missing 12 = .ok (.iload_n 3, 1) := by decide +kernel
theorem dX6_missing_13 : decode cX6_missing 13 = .ok (.sipush 128, 3) := by decide +kernel
theorem dX6_missing_16 : decode cX6_missing 16 = .ok (.if_icmp .ge 30, 3) := by decide +kernel
theorem dX6_missing_19 : decode cX6_missing 19 = .ok (.iload_n 2, 1) := by decide +kernel
theorem dX6_missing_20 : decode cX6_missing 20 = .ok (.ifCond .lt 26, 3) := by decide +kernel
theorem dX6_missing_23 : decode cX6_missing 23 = .ok (.aload_n 0, 1) := by decide +kernel
theorem dX6_missing_24 : decode cX6_missing 24 = .ok (.iload_n 3, 1) := by decide +kernel
theorem dX6_missing_25 : decode cX6_missing 25 = .ok (.invokevirtual 94, 3) := by decide +kernel
theorem dX6_missing_28 : decode cX6_missing 28 = .ok (.ifCond .eq 12, 3) := by decide +kernel
theorem dX6_missing_31 : decode cX6_missing 31 = .ok (.iload_n 2, 1) := by decide +kernel
theorem dX6_missing_32 : decode cX6_missing 32 = .ok (.ifCond .ne 5, 3) := by decide +kernel
theorem dX6_missing_35 : decode cX6_missing 35 = .ok (.iload_n 3, 1) := by decide +kernel
theorem dX6_missing_36 : decode cX6_missing 36 = .ok (.ireturn, 1) := by decide +kernel
theorem dX6_missing_37 : decode cX6_missing 37 = .ok (.iinc 2 (-1), 3) := by decide +kernel
theorem dX6_missing_40 : decode cX6_missing 40 = .ok (.iinc 3 1, 3) := by decide +kernel
theorem dX6_missing_43 : decode cX6_missing 43 = .ok (.goto (-31), 3) := by decide +kernel
theorem dX6_missing_46 : decode cX6_missing 46 = .ok (.iconst (-1), 1) := by decide +kernel
theorem dX6_missing_47 : decode cX6_missing 47 = .ok (.ireturn, 1) := by decide +kernel
set_option maxRecDepth 20000 in
theorem ggX6_target_X6_in : GoodIn wsX6_target wsX6_in := goodIn_r _ [7] (by decide +kernel) (by decide +kernel)
set_option maxRecDepth 20000 in
theorem gX6_target_X6_in : GoodIn wsX6_target (va_wsS RX6 66 yX6_in wsX6_in) := goodIn_app (goodIn_of _ (by decide +kernel)) ggX6_target_X6_in
set_option maxRecDepth 20000 in
theorem ggX6_target_X6_digest : GoodIn wsX6_target wsX6_digest := goodIn_r _ [11, 1, 12, 13, 4, 5, 6, 7, 14, 15, 16, 17, 18, 19, 20, 21, 22, 23, 24, 25, 26, 27, 28, 29, 50, 51, 52, 53, 54, 55, 56, 57, 58, 59, 60, 61, 62, 63, 64, 65, 66, 67, 68, 69] (by decide +kernel) (by decide +kernel)
set_option maxRecDepth 20000 in
theorem gX6_target_X6_digest : GoodIn wsX6_target (wsV RX6 98 RX6 yX6_digest wsX6_digest) := goodIn_app (goodIn_of _ (by decide +kernel)) ggX6_target_X6_digest
set_option maxRecDepth 20000 in
theorem ggX6_target_X6_know : GoodIn wsX6_target wsX6_know := goodIn_r _ [33, 3, 34, 35, 36, 37, 6, 38, 39, 40, 41, 50, 51, 52, 53, 54, 55, 56, 57, 58, 59, 60, 61, 62, 63, 64, 65, 66, 67, 68, 69] (by decide +kernel) (by decide +kernel)
set_option maxRecDepth 20000 in
theorem gX6_target_X6_know : GoodIn wsX6_target (wsV RX6 102 RX6 yX6_know wsX6_know) := goodIn_app (goodIn_of _ (by decide +kernel)) ggX6_target_X6_know
set_option maxRecDepth 20000 in
theorem ggX6_target_X6_lacking : GoodIn wsX6_target wsX6_lacking := goodIn_r _ [45, 35, 20, 21, 22, 6, 23, 24, 13, 25, 26, 27, 28, 29, 46, 47, 48, 49, 3, 34, 50, 51, 52, 53, 54, 55, 56, 57, 58, 59, 60, 61, 62, 63, 64, 65, 66, 67, 68, 69] (by decide +kernel) (by decide +kernel)
set_option maxRecDepth 20000 in
theorem gX6_target_X6_lacking : GoodIn wsX6_target (wsV RX6 106 RX6 yX6_lacking wsX6_lacking) := goodIn_app (goodIn_of _ (by decide +kernel)) ggX6_target_X6_lacking
theorem dX6_target_0 : decode cX6_target 0 = .ok (.iload_n 1, 1) := by decide +kernel
theorem dX6_target_1 : decode cX6_target 1 = .ok (.iconst 0, 1) := by decide +kernel
theorem dX6_target_2 : decode cX6_target 2 = .ok (.aload_n 0, 1) := by decide +kernel
theorem dX6_target_3 : decode cX6_target 3 = .ok (.getfield 70, 3) := by decide +kernel
theorem dX6_target_6 : decode cX6_target 6 = .ok (.invokestatic 66, 3) := by decide +kernel
theorem dX6_target_9 : decode cX6_target 9 = .ok (.ifCond .ne 5, 3) := by decide +kernel
theorem dX6_target_12 : decode cX6_target 12 = .ok (.iconst (-1), 1) := by decide +kernel
theorem dX6_target_13 : decode cX6_target 13 = .ok (.ireturn, 1) := by decide +kernel
theorem dX6_target_14 : decode cX6_target 14 = .ok (.aload_n 0, 1) := by decide +kernel
theorem dX6_target_15 : decode cX6_target 15 = .ok (.iload_n 1, 1) := by decide +kernel
theorem dX6_target_16 : decode cX6_target 16 = .ok (.putfield 32, 3) := by decide +kernel
theorem dX6_target_19 : decode cX6_target 19 = .ok (.iconst 0, 1) := by decide +kernel
theorem dX6_target_20 : decode cX6_target 20 = .ok (.istore_n 2, 1) := by decide +kernel
theorem dX6_target_21 : decode cX6_target 21 = .ok (.iload_n 2, 1) := by decide +kernel
theorem dX6_target_22 : decode cX6_target 22 = .ok (.sipush 128, 3) := by decide +kernel
theorem dX6_target_25 : decode cX6_target 25 = .ok (.if_icmp .ge 16, 3) := by decide +kernel
theorem dX6_target_28 : decode cX6_target 28 = .ok (.aload_n 0, 1) := by decide +kernel
theorem dX6_target_29 : decode cX6_target 29 = .ok (.getfield 39, 3) := by decide +kernel
theorem dX6_target_32 : decode cX6_target 32 = .ok (.iload_n 2, 1) := by decide +kernel
theorem dX6_target_33 : decode cX6_target 33 = .ok (.iconst 0, 1) := by decide +kernel
theorem dX6_target_34 : decode cX6_target 34 = .ok (.bastore, 1) := by decide +kernel
theorem dX6_target_35 : decode cX6_target 35 = .ok (.iinc 2 1, 3) := by decide +kernel
theorem dX6_target_38 : decode cX6_target 38 = .ok (.goto (-17), 3) := by decide +kernel
theorem dX6_target_41 : decode cX6_target 41 = .ok (.aload_n 0, 1) := by decide +kernel
theorem dX6_target_42 : decode cX6_target 42 = .ok (.iconst 1, 1) := by decide +kernel
theorem dX6_target_43 : decode cX6_target 43 = .ok (.aload_n 0, 1) := by decide +kernel
theorem dX6_target_44 : decode cX6_target 44 = .ok (.iload_n 1, 1) := by decide +kernel
theorem dX6_target_45 : decode cX6_target 45 = .ok (.iconst 1, 1) := by decide +kernel
theorem dX6_target_46 : decode cX6_target 46 = .ok (.invokevirtual 98, 3) := by decide +kernel
theorem dX6_target_49 : decode cX6_target 49 = .ok (.invokevirtual 102, 3) := by decide +kernel
theorem dX6_target_52 : decode cX6_target 52 = .ok (.aload_n 0, 1) := by decide +kernel
theorem dX6_target_53 : decode cX6_target 53 = .ok (.invokevirtual 106, 3) := by decide +kernel
theorem dX6_target_56 : decode cX6_target 56 = .ok (.ireturn, 1) := by decide +kernel
set_option maxRecDepth 20000 in
theorem ggX6_ask_X6_in : GoodIn wsX6_ask wsX6_in := goodIn_r _ [7] (by decide +kernel) (by decide +kernel)
set_option maxRecDepth 20000 in
theorem gX6_ask_X6_in : GoodIn wsX6_ask (va_wsS RX6 66 yX6_in wsX6_in) := goodIn_app (goodIn_of _ (by decide +kernel)) ggX6_ask_X6_in
set_option maxRecDepth 20000 in
theorem ggX6_ask_X6_build : GoodIn wsX6_ask wsX6_build := goodIn_r _ [11, 12, 13, 14, 15, 6, 16, 17, 18, 67, 68, 69, 70, 71, 72, 73, 74, 75, 76, 77, 78, 79, 80, 81, 82, 83, 84, 85, 86] (by decide +kernel) (by decide +kernel)
set_option maxRecDepth 20000 in
theorem gX6_ask_X6_build : GoodIn wsX6_ask (wsV RX6 77 RX6 yX6_build wsX6_build) := goodIn_app (goodIn_of _ (by decide +kernel)) ggX6_ask_X6_build
set_option maxRecDepth 20000 in
theorem ggX6_ask_X6_lacks : GoodIn wsX6_ask wsX6_lacks := goodIn_r _ [22, 23, 13, 24, 67, 68, 69, 70, 71, 72, 73, 74, 75, 76, 77, 78, 79, 80, 81, 82, 83, 84, 85, 86] (by decide +kernel) (by decide +kernel)
set_option maxRecDepth 20000 in
theorem gX6_ask_X6_lacks : GoodIn wsX6_ask (wsV RX6 94 RX6 yX6_lacks wsX6_lacks) := goodIn_app (goodIn_of _ (by decide +kernel)) ggX6_ask_X6_lacks
set_option maxRecDepth 20000 in
theorem ggX6_ask_X6_asking : GoodIn wsX6_ask wsX6_asking := goodIn_r _ [28, 29, 30, 31, 32, 3, 33, 34, 35, 36, 37, 38, 6, 39, 40, 41, 42, 43, 44, 45, 46, 47, 24, 2, 14, 15, 16, 17, 18, 48, 49, 50, 51, 52, 13, 53, 54, 55, 56, 57, 58, 4, 5, 7, 8, 9, 10, 11, 12, 59, 60, 61, 62, 63, 64, 65, 66, 23, 67, 68, 69, 70, 71, 72, 73, 74, 75, 76, 77, 78, 79, 80, 81, 82, 83, 84, 85, 86] (by decide +kernel) (by decide +kernel)
set_option maxRecDepth 20000 in
theorem gX6_ask_X6_asking : GoodIn wsX6_ask (wsV RX6 110 RX6 yX6_asking wsX6_asking) := goodIn_app (goodIn_of _ (by decide +kernel)) ggX6_ask_X6_asking
theorem dX6_ask_0 : decode cX6_ask 0 = .ok (.iload_n 1, 1) := by decide +kernel
theorem dX6_ask_1 : decode cX6_ask 1 = .ok (.iconst 0, 1) := by decide +kernel
theorem dX6_ask_2 : decode cX6_ask 2 = .ok (.aload_n 0, 1) := by decide +kernel
theorem dX6_ask_3 : decode cX6_ask 3 = .ok (.getfield 81, 3) := by decide +kernel
theorem dX6_ask_6 : decode cX6_ask 6 = .ok (.iconst 1, 1) := by decide +kernel
theorem dX6_ask_7 : decode cX6_ask 7 = .ok (.isub, 1) := by decide +kernel
theorem dX6_ask_8 : decode cX6_ask 8 = .ok (.invokestatic 66, 3) := by decide +kernel
theorem dX6_ask_11 : decode cX6_ask 11 = .ok (.ifCond .eq 22, 3) := by decide +kernel
theorem dX6_ask_14 : decode cX6_ask 14 = .ok (.iload_n 2, 1) := by decide +kernel
theorem dX6_ask_15 : decode cX6_ask 15 = .ok (.iconst 1, 1) := by decide +kernel
theorem dX6_ask_16 : decode cX6_ask 16 = .ok (.bipush 127, 2) := by decide +kernel
theorem dX6_ask_18 : decode cX6_ask 18 = .ok (.invokestatic 66, 3) := by decide +kernel
theorem dX6_ask_21 : decode cX6_ask 21 = .ok (.ifCond .eq 12, 3) := by decide +kernel
theorem dX6_ask_24 : decode cX6_ask 24 = .ok (.iload_n 3, 1) := by decide +kernel
theorem dX6_ask_25 : decode cX6_ask 25 = .ok (.ifCond .eq 10, 3) := by decide +kernel
theorem dX6_ask_28 : decode cX6_ask 28 = .ok (.iload_n 2, 1) := by decide +kernel
theorem dX6_ask_29 : decode cX6_ask 29 = .ok (.iconst 4, 1) := by decide +kernel
theorem dX6_ask_30 : decode cX6_ask 30 = .ok (.if_icmp .ge 5, 3) := by decide +kernel
theorem dX6_ask_33 : decode cX6_ask 33 = .ok (.iconst (-1), 1) := by decide +kernel
theorem dX6_ask_34 : decode cX6_ask 34 = .ok (.ireturn, 1) := by decide +kernel
theorem dX6_ask_35 : decode cX6_ask 35 = .ok (.aload_n 0, 1) := by decide +kernel
theorem dX6_ask_36 : decode cX6_ask 36 = .ok (.aload_n 0, 1) := by decide +kernel
theorem dX6_ask_37 : decode cX6_ask 37 = .ok (.getfield 36, 3) := by decide +kernel
theorem dX6_ask_40 : decode cX6_ask 40 = .ok (.invokevirtual 77, 3) := by decide +kernel
theorem dX6_ask_43 : decode cX6_ask 43 = .ok (.aload_n 0, 1) := by decide +kernel
theorem dX6_ask_44 : decode cX6_ask 44 = .ok (.getfield 32, 3) := by decide +kernel
theorem dX6_ask_47 : decode cX6_ask 47 = .ok (.ifCond .lt 11, 3) := by decide +kernel
theorem dX6_ask_50 : decode cX6_ask 50 = .ok (.aload_n 0, 1) := by decide +kernel
theorem dX6_ask_51 : decode cX6_ask 51 = .ok (.iload_n 2, 1) := by decide +kernel
theorem dX6_ask_52 : decode cX6_ask 52 = .ok (.invokevirtual 94, 3) := by decide +kernel
theorem dX6_ask_55 : decode cX6_ask 55 = .ok (.ifCond .ne 6, 3) := by decide +kernel
theorem dX6_ask_58 : decode cX6_ask 58 = .ok (.bipush (-3), 2) := by decide +kernel
theorem dX6_ask_60 : decode cX6_ask 60 = .ok (.ireturn, 1) := by decide +kernel
theorem dX6_ask_61 : decode cX6_ask 61 = .ok (.aload_n 0, 1) := by decide +kernel
theorem dX6_ask_62 : decode cX6_ask 62 = .ok (.iload_n 1, 1) := by decide +kernel
theorem dX6_ask_63 : decode cX6_ask 63 = .ok (.iload_n 2, 1) := by decide +kernel
theorem dX6_ask_64 : decode cX6_ask 64 = .ok (.iload_n 3, 1) := by decide +kernel
theorem dX6_ask_65 : decode cX6_ask 65 = .ok (.invokevirtual 110, 3) := by decide +kernel
theorem dX6_ask_68 : decode cX6_ask 68 = .ok (.ireturn, 1) := by decide +kernel
set_option maxRecDepth 20000 in
theorem ggX6_asking_X6_stateAt : GoodIn wsX6_asking wsX6_stateAt := goodIn_r _ [13, 14, 15, 16, 58, 59, 60, 61, 62, 63, 64, 65, 66, 67, 68, 69, 70, 71, 72, 73, 74, 75, 76, 77] (by decide +kernel) (by decide +kernel)
set_option maxRecDepth 20000 in
theorem gX6_asking_X6_stateAt : GoodIn wsX6_asking (wsV RX6 73 RX6 yX6_stateAt wsX6_stateAt) := goodIn_app (goodIn_of _ (by decide +kernel)) ggX6_asking_X6_stateAt
set_option maxRecDepth 20000 in
theorem ggX6_asking_X6_leafComes : GoodIn wsX6_asking wsX6_leafComes := goodIn_r _ [20, 14, 21, 22, 23, 24, 25, 12, 26, 27, 28, 58, 59, 60, 61, 62, 63, 64, 65, 66, 67, 68, 69, 70, 71, 72, 73, 74, 75, 76, 77] (by decide +kernel) (by decide +kernel)
set_option maxRecDepth 20000 in
theorem gX6_asking_X6_leafComes : GoodIn wsX6_asking (wsV RX6 117 RX6 yX6_leafComes wsX6_leafComes) := goodIn_app (goodIn_of _ (by decide +kernel)) ggX6_asking_X6_leafComes
set_option maxRecDepth 20000 in
theorem ggX6_asking_X6_rowComes : GoodIn wsX6_asking wsX6_rowComes := goodIn_r _ [32, 33, 14, 21, 34, 22, 23, 35, 36, 12, 37, 38, 39, 40, 41, 42, 43, 44, 45, 46, 47, 48, 24, 25, 26, 27, 28, 58, 59, 60, 61, 62, 63, 64, 65, 66, 67, 68, 69, 70, 71, 72, 73, 74, 75, 76, 77] (by decide +kernel) (by decide +kernel)
set_option maxRecDepth 20000 in
theorem gX6_asking_X6_rowComes : GoodIn wsX6_asking (wsV RX6 121 RX6 yX6_rowComes wsX6_rowComes) := goodIn_app (goodIn_of _ (by decide +kernel)) ggX6_asking_X6_rowComes
set_option maxRecDepth 20000 in
theorem ggX6_asking_X6_pairComes : GoodIn wsX6_asking wsX6_pairComes := goodIn_r _ [52, 14, 34, 21, 22, 44, 45, 46, 12, 47, 48, 24, 25, 26, 27, 28, 53, 54, 55, 56, 57, 23, 35, 36, 37, 38, 39, 40, 58, 59, 60, 61, 62, 63, 64, 65, 66, 67, 68, 69, 70, 71, 72, 73, 74, 75, 76, 77] (by decide +kernel) (by decide +kernel)
set_option maxRecDepth 20000 in
theorem gX6_asking_X6_pairComes : GoodIn wsX6_asking (wsV RX6 124 RX6 yX6_pairComes wsX6_pairComes) := goodIn_app (goodIn_of _ (by decide +kernel)) ggX6_asking_X6_pairComes
theorem dX6_asking_0 : decode cX6_asking 0 = .ok (.aload_n 0, 1) := by decide +kernel
theorem dX6_asking_1 : decode cX6_asking 1 = .ok (.dup, 1) := by decide +kernel
theorem dX6_asking_2 : decode cX6_asking 2 = .ok (.getfield 114, 3) := by decide +kernel
theorem dX6_asking_5 : decode cX6_asking 5 = .ok (.iconst 1, 1) := by decide +kernel
theorem dX6_asking_6 : decode cX6_asking 6 = .ok (.iadd, 1) := by decide +kernel
theorem dX6_asking_7 : decode cX6_asking 7 = .ok (.putfield 114, 3) := by decide +kernel
theorem dX6_asking_10 : decode cX6_asking 10 = .ok (.aload_n 0, 1) := by decide +kernel
theorem dX6_asking_11 : decode cX6_asking 11 = .ok (.getfield 23, 3) := by decide +kernel
theorem dX6_asking_14 : decode cX6_asking 14 = .ok (.iload_n 1, 1) := by decide +kernel
theorem dX6_asking_15 : decode cX6_asking 15 = .ok (.dup2, 1) := by decide +kernel
theorem dX6_asking_16 : decode cX6_asking 16 = .ok (.iaload, 1) := by decide +kernel
theorem dX6_asking_17 : decode cX6_asking 17 = .ok (.iconst 1, 1) := by decide +kernel
theorem dX6_asking_18 : decode cX6_asking 18 = .ok (.iadd, 1) := by decide +kernel
theorem dX6_asking_19 : decode cX6_asking 19 = .ok (.iastore, 1) := by decide +kernel
theorem dX6_asking_20 : decode cX6_asking 20 = .ok (.aload_n 0, 1) := by decide +kernel
theorem dX6_asking_21 : decode cX6_asking 21 = .ok (.getfield 17, 3) := by decide +kernel
theorem dX6_asking_24 : decode cX6_asking 24 = .ok (.iload_n 1, 1) := by decide +kernel
theorem dX6_asking_25 : decode cX6_asking 25 = .ok (.iaload, 1) := by decide +kernel
theorem dX6_asking_26 : decode cX6_asking 26 = .ok (.istore 4, 2) := by decide +kernel
theorem dX6_asking_28 : decode cX6_asking 28 = .ok (.aload_n 0, 1) := by decide +kernel
theorem dX6_asking_29 : decode cX6_asking 29 = .ok (.getfield 20, 3) := by decide +kernel
theorem dX6_asking_32 : decode cX6_asking 32 = .ok (.iload_n 1, 1) := by decide +kernel
theorem dX6_asking_33 : decode cX6_asking 33 = .ok (.iaload, 1) := by decide +kernel
theorem dX6_asking_34 : decode cX6_asking 34 = .ok (.ifCond .lt 16, 3) := by decide +kernel
theorem dX6_asking_37 : decode cX6_asking 37 = .ok (.aload_n 0, 1) := by decide +kernel
theorem dX6_asking_38 : decode cX6_asking 38 = .ok (.getfield 20, 3) := by decide +kernel
theorem dX6_asking_41 : decode cX6_asking 41 = .ok (.iload_n 1, 1) := by decide +kernel
theorem dX6_asking_42 : decode cX6_asking 42 = .ok (.iaload, 1) := by decide +kernel
theorem dX6_asking_43 : decode cX6_asking 43 = .ok (.aload_n 0, 1) := by decide +kernel
theorem dX6_asking_44 : decode cX6_asking 44 = .ok (.getfield 32, 3) := by decide +kernel
theorem dX6_asking_47 : decode cX6_asking 47 = .ok (.if_icmp .lt 20, 3) := by decide +kernel
theorem dX6_asking_50 : decode cX6_asking 50 = .ok (.iload 4, 2) := by decide +kernel
theorem dX6_asking_52 : decode cX6_asking 52 = .ok (.iconst 4, 1) := by decide +kernel
theorem dX6_asking_53 : decode cX6_asking 53 = .ok (.if_icmp .ne 16, 3) := by decide +kernel
theorem dX6_asking_56 : decode cX6_asking 56 = .ok (.aload_n 0, 1) := by decide +kernel
theorem dX6_asking_57 : decode cX6_asking 57 = .ok (.getfield 23, 3) := by decide +kernel
theorem dX6_asking_60 : decode cX6_asking 60 = .ok (.iload_n 1, 1) := by decide +kernel
theorem dX6_asking_61 : decode cX6_asking 61 = .ok (.iaload, 1) := by decide +kernel
theorem dX6_asking_62 : decode cX6_asking 62 = .ok (.iconst 2, 1) := by decide +kernel
theorem dX6_asking_63 : decode cX6_asking 63 = .ok (.irem, 1) := by decide +kernel
theorem dX6_asking_64 : decode cX6_asking 64 = .ok (.ifCond .ne 5, 3) := by decide +kernel
theorem dX6_asking_67 : decode cX6_asking 67 = .ok (.iconst 2, 1) := by decide +kernel
theorem dX6_asking_68 : decode cX6_asking 68 = .ok (.ireturn, 1) := by decide +kernel
theorem dX6_asking_69 : decode cX6_asking 69 = .ok (.aload_n 0, 1) := by decide +kernel
theorem dX6_asking_70 : decode cX6_asking 70 = .ok (.iload 4, 2) := by decide +kernel
theorem dX6_asking_72 : decode cX6_asking 72 = .ok (.iconst 3, 1) := by decide +kernel
theorem dX6_asking_73 : decode cX6_asking 73 = .ok (.if_icmp .ne 19, 3) := by decide +kernel
theorem dX6_asking_76 : decode cX6_asking 76 = .ok (.aload_n 0, 1) := by decide +kernel
theorem dX6_asking_77 : decode cX6_asking 77 = .ok (.getfield 32, 3) := by decide +kernel
theorem dX6_asking_80 : decode cX6_asking 80 = .ok (.ifCond .le 12, 3) := by decide +kernel
theorem dX6_asking_83 : decode cX6_asking 83 = .ok (.aload_n 0, 1) := by decide +kernel
theorem dX6_asking_84 : decode cX6_asking 84 = .ok (.getfield 32, 3) := by decide +kernel
theorem dX6_asking_87 : decode cX6_asking 87 = .ok (.iconst 1, 1) := by decide +kernel
theorem dX6_asking_88 : decode cX6_asking 88 = .ok (.isub, 1) := by decide +kernel
theorem dX6_asking_89 : decode cX6_asking 89 = .ok (.goto 7, 3) := by decide +kernel
theorem dX6_asking_92 : decode cX6_asking 92 = .ok (.aload_n 0, 1) := by decide +kernel
theorem dX6_asking_93 : decode cX6_asking 93 = .ok (.getfield 32, 3) := by decide +kernel
theorem dX6_asking_96 : decode cX6_asking 96 = .ok (.invokevirtual 73, 3) := by decide +kernel
theorem dX6_asking_99 : decode cX6_asking 99 = .ok (.iload_n 2, 1) := by decide +kernel
theorem dX6_asking_100 : decode cX6_asking 100 = .ok (.bipush 63, 2) := by decide +kernel
theorem dX6_asking_102 : decode cX6_asking 102 = .ok (.if_icmp .le 13, 3) := by decide +kernel
theorem dX6_asking_105 : decode cX6_asking 105 = .ok (.aload_n 0, 1) := by decide +kernel
theorem dX6_asking_106 : decode cX6_asking 106 = .ok (.iload_n 2, 1) := by decide +kernel
theorem dX6_asking_107 : decode cX6_asking 107 = .ok (.iload 4, 2) := by decide +kernel
theorem dX6_asking_109 : decode cX6_asking 109 = .ok (.invokevirtual 117, 3) := by decide +kernel
theorem dX6_asking_112 : decode cX6_asking 112 = .ok (.goto 24, 3) := by decide +kernel
theorem dX6_asking_115 : decode cX6_asking 115 = .ok (.iload_n 3, 1) := by decide +kernel
theorem dX6_asking_116 : decode cX6_asking 116 = .ok (.ifCond .eq 13, 3) := by decide +kernel
theorem dX6_asking_119 : decode cX6_asking 119 = .ok (.aload_n 0, 1) := by decide +kernel
theorem dX6_asking_120 : decode cX6_asking 120 = .ok (.iload_n 2, 1) := by decide +kernel
theorem dX6_asking_121 : decode cX6_asking 121 = .ok (.iload 4, 2) := by decide +kernel
theorem dX6_asking_123 : decode cX6_asking 123 = .ok (.invokevirtual 121, 3) := by decide +kernel
theorem dX6_asking_126 : decode cX6_asking 126 = .ok (.goto 10, 3) := by decide +kernel
theorem dX6_asking_129 : decode cX6_asking 129 = .ok (.aload_n 0, 1) := by decide +kernel
theorem dX6_asking_130 : decode cX6_asking 130 = .ok (.iload_n 2, 1) := by decide +kernel
theorem dX6_asking_131 : decode cX6_asking 131 = .ok (.iload 4, 2) := by decide +kernel
theorem dX6_asking_133 : decode cX6_asking 133 = .ok (.invokevirtual 124, 3) := by decide +kernel
theorem dX6_asking_136 : decode cX6_asking 136 = .ok (.istore 5, 2) := by decide +kernel
theorem dX6_asking_138 : decode cX6_asking 138 = .ok (.iload 5, 2) := by decide +kernel
theorem dX6_asking_140 : decode cX6_asking 140 = .ok (.ifCond .eq 5, 3) := by decide +kernel
theorem dX6_asking_143 : decode cX6_asking 143 = .ok (.iconst 1, 1) := by decide +kernel
theorem dX6_asking_144 : decode cX6_asking 144 = .ok (.ireturn, 1) := by decide +kernel
theorem dX6_asking_145 : decode cX6_asking 145 = .ok (.aload_n 0, 1) := by decide +kernel
theorem dX6_asking_146 : decode cX6_asking 146 = .ok (.getfield 26, 3) := by decide +kernel
theorem dX6_asking_149 : decode cX6_asking 149 = .ok (.iload_n 1, 1) := by decide +kernel
theorem dX6_asking_150 : decode cX6_asking 150 = .ok (.iaload, 1) := by decide +kernel
theorem dX6_asking_151 : decode cX6_asking 151 = .ok (.ifCond .ne 23, 3) := by decide +kernel
theorem dX6_asking_154 : decode cX6_asking 154 = .ok (.aload_n 0, 1) := by decide +kernel
theorem dX6_asking_155 : decode cX6_asking 155 = .ok (.getfield 29, 3) := by decide +kernel
theorem dX6_asking_158 : decode cX6_asking 158 = .ok (.aload_n 0, 1) := by decide +kernel
theorem dX6_asking_159 : decode cX6_asking 159 = .ok (.getfield 84, 3) := by decide +kernel
theorem dX6_asking_162 : decode cX6_asking 162 = .ok (.iload_n 1, 1) := by decide +kernel
theorem dX6_asking_163 : decode cX6_asking 163 = .ok (.iastore, 1) := by decide +kernel
theorem dX6_asking_164 : decode cX6_asking 164 = .ok (.aload_n 0, 1) := by decide +kernel
theorem dX6_asking_165 : decode cX6_asking 165 = .ok (.dup, 1) := by decide +kernel
theorem dX6_asking_166 : decode cX6_asking 166 = .ok (.getfield 84, 3) := by decide +kernel
theorem dX6_asking_169 : decode cX6_asking 169 = .ok (.iconst 1, 1) := by decide +kernel
theorem dX6_asking_170 : decode cX6_asking 170 = .ok (.iadd, 1) := by decide +kernel
theorem dX6_asking_171 : decode cX6_asking 171 = .ok (.putfield 84, 3) := by decide +kernel
theorem dX6_asking_174 : decode cX6_asking 174 = .ok (.aload_n 0, 1) := by decide +kernel
theorem dX6_asking_175 : decode cX6_asking 175 = .ok (.getfield 26, 3) := by decide +kernel
theorem dX6_asking_178 : decode cX6_asking 178 = .ok (.iload_n 1, 1) := by decide +kernel
theorem dX6_asking_179 : decode cX6_asking 179 = .ok (.dup2, 1) := by decide +kernel
theorem dX6_asking_180 : decode cX6_asking 180 = .ok (.iaload, 1) := by decide +kernel
theorem dX6_asking_181 : decode cX6_asking 181 = .ok (.iconst 1, 1) := by decide +kernel
theorem dX6_asking_182 : decode cX6_asking 182 = .ok (.iadd, 1) := by decide +kernel
theorem dX6_asking_183 : decode cX6_asking 183 = .ok (.iastore, 1) := by decide +kernel
theorem dX6_asking_184 : decode cX6_asking 184 = .ok (.iconst 0, 1) := by decide +kernel
theorem dX6_asking_185 : decode cX6_asking 185 = .ok (.ireturn, 1) := by decide +kernel
set_option maxRecDepth 20000 in
theorem ggX6_leafComes_X6_mixed : GoodIn wsX6_leafComes wsX6_mixed := goodIn_r _ [8, 9, 10] (by decide +kernel) (by decide +kernel)
set_option maxRecDepth 20000 in
theorem gX6_leafComes_X6_mixed : GoodIn wsX6_leafComes (va_wsS RX6 62 yX6_mixed wsX6_mixed) := goodIn_app (goodIn_of _ (by decide +kernel)) ggX6_leafComes_X6_mixed
theorem dX6_leafComes_0 : decode cX6_leafComes 0 = .ok (.iload_n 1, 1) := by decide +kernel
theorem dX6_leafComes_1 : decode cX6_leafComes 1 = .ok (.bipush 64, 2) := by decide +kernel
theorem dX6_leafComes_3 : decode cX6_leafComes 3 = .ok (.isub, 1) := by decide +kernel
theorem dX6_leafComes_4 : decode cX6_leafComes 4 = .ok (.istore_n 3, 1) := by decide +kernel
theorem dX6_leafComes_5 : decode cX6_leafComes 5 = .ok (.iload_n 2, 1) := by decide +kernel
theorem dX6_leafComes_6 : decode cX6_leafComes 6 = .ok (.iconst 1, 1) := by decide +kernel
theorem dX6_leafComes_7 : decode cX6_leafComes 7 = .ok (.if_icmp .ne 14, 3) := by decide +kernel
theorem dX6_leafComes_10 : decode cX6_leafComes 10 = .ok (.aload_n 0, 1) := by decide +kernel
theorem dX6_leafComes_11 : decode cX6_leafComes 11 = .ok (.getfield 46, 3) := by decide +kernel
theorem dX6_leafComes_14 : decode cX6_leafComes 14 = .ok (.iload_n 3, 1) := by decide +kernel
theorem dX6_leafComes_15 : decode cX6_leafComes 15 = .ok (.laload, 1) := by decide +kernel
theorem dX6_leafComes_16 : decode cX6_leafComes 16 = .ok (.lconst 1, 1) := by decide +kernel
theorem dX6_leafComes_17 : decode cX6_leafComes 17 = .ok (.lxor, 1) := by decide +kernel
theorem dX6_leafComes_18 : decode cX6_leafComes 18 = .ok (.goto 18, 3) := by decide +kernel
theorem dX6_leafComes_21 : decode cX6_leafComes 21 = .ok (.iload_n 2, 1) := by decide +kernel
theorem dX6_leafComes_22 : decode cX6_leafComes 22 = .ok (.iconst 2, 1) := by decide +kernel
theorem dX6_leafComes_23 : decode cX6_leafComes 23 = .ok (.if_icmp .ne 7, 3) := by decide +kernel
theorem dX6_leafComes_26 : decode cX6_leafComes 26 = .ok (.lconst 0, 1) := by decide +kernel
theorem dX6_leafComes_27 : decode cX6_leafComes 27 = .ok (.goto 9, 3) := by decide +kernel
theorem dX6_leafComes_30 : decode cX6_leafComes 30 = .ok (.aload_n 0, 1) := by decide +kernel
theorem dX6_leafComes_31 : decode cX6_leafComes 31 = .ok (.getfield 46, 3) := by decide +kernel
theorem dX6_leafComes_34 : decode cX6_leafComes 34 = .ok (.iload_n 3, 1) := by decide +kernel
theorem dX6_leafComes_35 : decode cX6_leafComes 35 = .ok (.laload, 1) := by decide +kernel
theorem dX6_leafComes_36 : decode cX6_leafComes 36 = .ok (.lstore 4, 2) := by decide +kernel
theorem dX6_leafComes_38 : decode cX6_leafComes 38 = .ok (.aload_n 0, 1) := by decide +kernel
theorem dX6_leafComes_39 : decode cX6_leafComes 39 = .ok (.aload_n 0, 1) := by decide +kernel
theorem dX6_leafComes_40 : decode cX6_leafComes 40 = .ok (.getfield 127, 3) := by decide +kernel
theorem dX6_leafComes_43 : decode cX6_leafComes 43 = .ok (.bipush 8, 2) := by decide +kernel
theorem dX6_leafComes_45 : decode cX6_leafComes 45 = .ok (.iadd, 1) := by decide +kernel
theorem dX6_leafComes_46 : decode cX6_leafComes 46 = .ok (.putfield 127, 3) := by decide +kernel
theorem dX6_leafComes_49 : decode cX6_leafComes 49 = .ok (.lload 4, 2) := by decide +kernel
theorem dX6_leafComes_51 : decode cX6_leafComes 51 = .ok (.lconst 0, 1) := by decide +kernel
theorem dX6_leafComes_52 : decode cX6_leafComes 52 = .ok (.lcmp, 1) := by decide +kernel
theorem dX6_leafComes_53 : decode cX6_leafComes 53 = .ok (.ifCond .ne 7, 3) := by decide +kernel
theorem dX6_leafComes_56 : decode cX6_leafComes 56 = .ok (.lconst 0, 1) := by decide +kernel
theorem dX6_leafComes_57 : decode cX6_leafComes 57 = .ok (.goto 12, 3) := by decide +kernel
theorem dX6_leafComes_60 : decode cX6_leafComes 60 = .ok (.iload_n 3, 1) := by decide +kernel
theorem dX6_leafComes_61 : decode cX6_leafComes 61 = .ok (.i2l, 1) := by decide +kernel
theorem dX6_leafComes_62 : decode cX6_leafComes 62 = .ok (.lconst 1, 1) := by decide +kernel
theorem dX6_leafComes_63 : decode cX6_leafComes 63 = .ok (.ladd, 1) := by decide +kernel
theorem dX6_leafComes_64 : decode cX6_leafComes 64 = .ok (.lload 4, 2) := by decide +kernel
theorem dX6_leafComes_66 : decode cX6_leafComes 66 = .ok (.invokestatic 62, 3) := by decide +kernel
theorem dX6_leafComes_69 : decode cX6_leafComes 69 = .ok (.aload_n 0, 1) := by decide +kernel
theorem dX6_leafComes_70 : decode cX6_leafComes 70 = .ok (.getfield 43, 3) := by decide +kernel
theorem dX6_leafComes_73 : decode cX6_leafComes 73 = .ok (.iload_n 1, 1) := by decide +kernel
theorem dX6_leafComes_74 : decode cX6_leafComes 74 = .ok (.laload, 1) := by decide +kernel
theorem dX6_leafComes_75 : decode cX6_leafComes 75 = .ok (.lcmp, 1) := by decide +kernel
theorem dX6_leafComes_76 : decode cX6_leafComes 76 = .ok (.ifCond .eq 5, 3) := by decide +kernel
theorem dX6_leafComes_79 : decode cX6_leafComes 79 = .ok (.iconst 0, 1) := by decide +kernel
theorem dX6_leafComes_80 : decode cX6_leafComes 80 = .ok (.ireturn, 1) := by decide +kernel
theorem dX6_leafComes_81 : decode cX6_leafComes 81 = .ok (.aload_n 0, 1) := by decide +kernel
theorem dX6_leafComes_82 : decode cX6_leafComes 82 = .ok (.getfield 36, 3) := by decide +kernel
theorem dX6_leafComes_85 : decode cX6_leafComes 85 = .ok (.iload_n 3, 1) := by decide +kernel
theorem dX6_leafComes_86 : decode cX6_leafComes 86 = .ok (.lload 4, 2) := by decide +kernel
theorem dX6_leafComes_88 : decode cX6_leafComes 88 = .ok (.lastore, 1) := by decide +kernel
theorem dX6_leafComes_89 : decode cX6_leafComes 89 = .ok (.iconst 1, 1) := by decide +kernel
theorem dX6_leafComes_90 : decode cX6_leafComes 90 = .ok (.ireturn, 1) := by decide +kernel
set_option maxRecDepth 20000 in
theorem ggX6_pairComes_X6_build : GoodIn wsX6_pairComes wsX6_build := goodIn_r _ [9, 10, 2, 11, 12, 8, 13, 14, 15, 28, 29, 30, 31, 32, 33, 34, 35, 36, 37, 38, 39, 40, 41, 42, 43, 44, 45, 46, 47] (by decide +kernel) (by decide +kernel)
set_option maxRecDepth 20000 in
theorem gX6_pairComes_X6_build : GoodIn wsX6_pairComes (wsV RX6 77 RX6 yX6_build wsX6_build) := goodIn_app (goodIn_of _ (by decide +kernel)) ggX6_pairComes_X6_build
set_option maxRecDepth 20000 in
theorem ggX6_pairComes_X6_mixed : GoodIn wsX6_pairComes wsX6_mixed := goodIn_r _ [13, 14, 15] (by decide +kernel) (by decide +kernel)
set_option maxRecDepth 20000 in
theorem gX6_pairComes_X6_mixed : GoodIn wsX6_pairComes (va_wsS RX6 62 yX6_mixed wsX6_mixed) := goodIn_app (goodIn_of _ (by decide +kernel)) ggX6_pairComes_X6_mixed
set_option maxRecDepth 20000 in
theorem ggX6_pairComes_X6_know : GoodIn wsX6_pairComes wsX6_know := goodIn_r _ [19, 20, 4, 21, 22, 23, 8, 24, 25, 26, 27, 28, 29, 30, 31, 32, 33, 34, 35, 36, 37, 38, 39, 40, 41, 42, 43, 44, 45, 46, 47] (by decide +kernel) (by decide +kernel)
set_option maxRecDepth 20000 in
theorem gX6_pairComes_X6_know : GoodIn wsX6_pairComes (wsV RX6 102 RX6 yX6_know wsX6_know) := goodIn_app (goodIn_of _ (by decide +kernel)) ggX6_pairComes_X6_know
theorem dX6_pairComes_0 : decode cX6_pairComes 0 = .ok (.aload_n 0, 1) := by decide +kernel
theorem dX6_pairComes_1 : decode cX6_pairComes 1 = .ok (.aload_n 0, 1) := by decide +kernel
theorem dX6_pairComes_2 : decode cX6_pairComes 2 = .ok (.getfield 46, 3) := by decide +kernel
theorem dX6_pairComes_5 : decode cX6_pairComes 5 = .ok (.invokevirtual 77, 3) := by decide +kernel
theorem dX6_pairComes_8 : decode cX6_pairComes 8 = .ok (.aload_n 0, 1) := by decide +kernel
theorem dX6_pairComes_9 : decode cX6_pairComes 9 = .ok (.getfield 52, 3) := by decide +kernel
theorem dX6_pairComes_12 : decode cX6_pairComes 12 = .ok (.iconst 2, 1) := by decide +kernel
theorem dX6_pairComes_13 : decode cX6_pairComes 13 = .ok (.iload_n 1, 1) := by decide +kernel
theorem dX6_pairComes_14 : decode cX6_pairComes 14 = .ok (.imul, 1) := by decide +kernel
theorem dX6_pairComes_15 : decode cX6_pairComes 15 = .ok (.laload, 1) := by decide +kernel
theorem dX6_pairComes_16 : decode cX6_pairComes 16 = .ok (.lstore_n 3, 1) := by decide +kernel
theorem dX6_pairComes_17 : decode cX6_pairComes 17 = .ok (.aload_n 0, 1) := by decide +kernel
theorem dX6_pairComes_18 : decode cX6_pairComes 18 = .ok (.getfield 52, 3) := by decide +kernel
theorem dX6_pairComes_21 : decode cX6_pairComes 21 = .ok (.iconst 2, 1) := by decide +kernel
theorem dX6_pairComes_22 : decode cX6_pairComes 22 = .ok (.iload_n 1, 1) := by decide +kernel
theorem dX6_pairComes_23 : decode cX6_pairComes 23 = .ok (.imul, 1) := by decide +kernel
theorem dX6_pairComes_24 : decode cX6_pairComes 24 = .ok (.iconst 1, 1) := by decide +kernel
theorem dX6_pairComes_25 : decode cX6_pairComes 25 = .ok (.iadd, 1) := by decide +kernel
theorem dX6_pairComes_26 : decode cX6_pairComes 26 = .ok (.laload, 1) := by decide +kernel
theorem dX6_pairComes_27 : decode cX6_pairComes 27 = .ok (.lstore 5, 2) := by decide +kernel
theorem dX6_pairComes_29 : decode cX6_pairComes 29 = .ok (.iload_n 2, 1) := by decide +kernel
theorem dX6_pairComes_30 : decode cX6_pairComes 30 = .ok (.iconst 1, 1) := by decide +kernel
theorem dX6_pairComes_31 : decode cX6_pairComes 31 = .ok (.if_icmp .ne 7, 3) := by decide +kernel
theorem dX6_pairComes_34 : decode cX6_pairComes 34 = .ok (.lload_n 3, 1) := by decide +kernel
theorem dX6_pairComes_35 : decode cX6_pairComes 35 = .ok (.lconst 1, 1) := by decide +kernel
theorem dX6_pairComes_36 : decode cX6_pairComes 36 = .ok (.lxor, 1) := by decide +kernel
theorem dX6_pairComes_37 : decode cX6_pairComes 37 = .ok (.lstore_n 3, 1) := by decide +kernel
theorem dX6_pairComes_38 : decode cX6_pairComes 38 = .ok (.iload_n 2, 1) := by decide +kernel
theorem dX6_pairComes_39 : decode cX6_pairComes 39 = .ok (.iconst 2, 1) := by decide +kernel
theorem dX6_pairComes_40 : decode cX6_pairComes 40 = .ok (.if_icmp .ne 13, 3) := by decide +kernel
theorem dX6_pairComes_43 : decode cX6_pairComes 43 = .ok (.lload_n 3, 1) := by decide +kernel
theorem dX6_pairComes_44 : decode cX6_pairComes 44 = .ok (.lstore 7, 2) := by decide +kernel
theorem dX6_pairComes_46 : decode cX6_pairComes 46 = .ok (.lload 5, 2) := by decide +kernel
theorem dX6_pairComes_48 : decode cX6_pairComes 48 = .ok (.lstore_n 3, 1) := by decide +kernel
theorem dX6_pairComes_49 : decode cX6_pairComes 49 = .ok (.lload 7, 2) := by decide +kernel
theorem dX6_pairComes_51 : decode cX6_pairComes 51 = .ok (.lstore 5, 2) := by decide +kernel
theorem dX6_pairComes_53 : decode cX6_pairComes 53 = .ok (.aload_n 0, 1) := by decide +kernel
theorem dX6_pairComes_54 : decode cX6_pairComes 54 = .ok (.aload_n 0, 1) := by decide +kernel
theorem dX6_pairComes_55 : decode cX6_pairComes 55 = .ok (.getfield 127, 3) := by decide +kernel
theorem dX6_pairComes_58 : decode cX6_pairComes 58 = .ok (.bipush 16, 2) := by decide +kernel
theorem dX6_pairComes_60 : decode cX6_pairComes 60 = .ok (.iadd, 1) := by decide +kernel
theorem dX6_pairComes_61 : decode cX6_pairComes 61 = .ok (.putfield 127, 3) := by decide +kernel
theorem dX6_pairComes_64 : decode cX6_pairComes 64 = .ok (.lload_n 3, 1) := by decide +kernel
theorem dX6_pairComes_65 : decode cX6_pairComes 65 = .ok (.lconst 0, 1) := by decide +kernel
theorem dX6_pairComes_66 : decode cX6_pairComes 66 = .ok (.lcmp, 1) := by decide +kernel
theorem dX6_pairComes_67 : decode cX6_pairComes 67 = .ok (.ifCond .ne 14, 3) := by decide +kernel
theorem dX6_pairComes_70 : decode cX6_pairComes 70 = .ok (.lload 5, 2) := by decide +kernel
theorem dX6_pairComes_72 : decode cX6_pairComes 72 = .ok (.lconst 0, 1) := by decide +kernel
theorem dX6_pairComes_73 : decode cX6_pairComes 73 = .ok (.lcmp, 1) := by decide +kernel
theorem dX6_pairComes_74 : decode cX6_pairComes 74 = .ok (.ifCond .ne 7, 3) := by decide +kernel
theorem dX6_pairComes_77 : decode cX6_pairComes 77 = .ok (.lconst 0, 1) := by decide +kernel
theorem dX6_pairComes_78 : decode cX6_pairComes 78 = .ok (.goto 9, 3) := by decide +kernel
theorem dX6_pairComes_81 : decode cX6_pairComes 81 = .ok (.lload_n 3, 1) := by decide +kernel
theorem dX6_pairComes_82 : decode cX6_pairComes 82 = .ok (.lload 5, 2) := by decide +kernel
theorem dX6_pairComes_84 : decode cX6_pairComes 84 = .ok (.invokestatic 62, 3) := by decide +kernel
theorem dX6_pairComes_87 : decode cX6_pairComes 87 = .ok (.aload_n 0, 1) := by decide +kernel
theorem dX6_pairComes_88 : decode cX6_pairComes 88 = .ok (.getfield 43, 3) := by decide +kernel
theorem dX6_pairComes_91 : decode cX6_pairComes 91 = .ok (.iload_n 1, 1) := by decide +kernel
theorem dX6_pairComes_92 : decode cX6_pairComes 92 = .ok (.laload, 1) := by decide +kernel
theorem dX6_pairComes_93 : decode cX6_pairComes 93 = .ok (.lcmp, 1) := by decide +kernel
theorem dX6_pairComes_94 : decode cX6_pairComes 94 = .ok (.ifCond .eq 5, 3) := by decide +kernel
theorem dX6_pairComes_97 : decode cX6_pairComes 97 = .ok (.iconst 0, 1) := by decide +kernel
theorem dX6_pairComes_98 : decode cX6_pairComes 98 = .ok (.ireturn, 1) := by decide +kernel
theorem dX6_pairComes_99 : decode cX6_pairComes 99 = .ok (.aload_n 0, 1) := by decide +kernel
theorem dX6_pairComes_100 : decode cX6_pairComes 100 = .ok (.iconst 2, 1) := by decide +kernel
theorem dX6_pairComes_101 : decode cX6_pairComes 101 = .ok (.iload_n 1, 1) := by decide +kernel
theorem dX6_pairComes_102 : decode cX6_pairComes 102 = .ok (.imul, 1) := by decide +kernel
theorem dX6_pairComes_103 : decode cX6_pairComes 103 = .ok (.lload_n 3, 1) := by decide +kernel
theorem dX6_pairComes_104 : decode cX6_pairComes 104 = .ok (.invokevirtual 102, 3) := by decide +kernel
theorem dX6_pairComes_107 : decode cX6_pairComes 107 = .ok (.aload_n 0, 1) := by decide +kernel
theorem dX6_pairComes_108 : decode cX6_pairComes 108 = .ok (.iconst 2, 1) := by decide +kernel
theorem dX6_pairComes_109 : decode cX6_pairComes 109 = .ok (.iload_n 1, 1) := by decide +kernel
theorem dX6_pairComes_110 : decode cX6_pairComes 110 = .ok (.imul, 1) := by decide +kernel
theorem dX6_pairComes_111 : decode cX6_pairComes 111 = .ok (.iconst 1, 1) := by decide +kernel
theorem dX6_pairComes_112 : decode cX6_pairComes 112 = .ok (.iadd, 1) := by decide +kernel
theorem dX6_pairComes_113 : decode cX6_pairComes 113 = .ok (.lload 5, 2) := by decide +kernel
theorem dX6_pairComes_115 : decode cX6_pairComes 115 = .ok (.invokevirtual 102, 3) := by decide +kernel
theorem dX6_pairComes_118 : decode cX6_pairComes 118 = .ok (.iconst 1, 1) := by decide +kernel
theorem dX6_pairComes_119 : decode cX6_pairComes 119 = .ok (.ireturn, 1) := by decide +kernel
set_option maxRecDepth 20000 in
theorem ggX6_rowComes_X6_firstOf : GoodIn wsX6_rowComes wsX6_firstOf := goodIn_r _ [10] (by decide +kernel) (by decide +kernel)
set_option maxRecDepth 20000 in
theorem gX6_rowComes_X6_firstOf : GoodIn wsX6_rowComes (va_wsS RX6 87 yX6_firstOf wsX6_firstOf) := goodIn_app (goodIn_of _ (by decide +kernel)) ggX6_rowComes_X6_firstOf
set_option maxRecDepth 20000 in
theorem ggX6_rowComes_X6_lastOf : GoodIn wsX6_rowComes wsX6_lastOf := goodIn_r _ [13] (by decide +kernel) (by decide +kernel)
set_option maxRecDepth 20000 in
theorem gX6_rowComes_X6_lastOf : GoodIn wsX6_rowComes (va_wsS RX6 91 yX6_lastOf wsX6_lastOf) := goodIn_app (goodIn_of _ (by decide +kernel)) ggX6_rowComes_X6_lastOf
set_option maxRecDepth 20000 in
theorem ggX6_rowComes_X6_in : GoodIn wsX6_rowComes wsX6_in := goodIn_r _ [16] (by decide +kernel) (by decide +kernel)
set_option maxRecDepth 20000 in
theorem gX6_rowComes_X6_in : GoodIn wsX6_rowComes (va_wsS RX6 66 yX6_in wsX6_in) := goodIn_app (goodIn_of _ (by decide +kernel)) ggX6_rowComes_X6_in
set_option maxRecDepth 20000 in
theorem ggX6_rowComes_X6_build : GoodIn wsX6_rowComes wsX6_build := goodIn_r _ [20, 21, 4, 22, 23, 9, 24, 25, 26, 27, 28, 29, 30, 31, 32, 33, 34, 35, 36, 37, 38, 39, 40, 41, 42, 43, 44, 45, 46] (by decide +kernel) (by decide +kernel)
set_option maxRecDepth 20000 in
theorem gX6_rowComes_X6_build : GoodIn wsX6_rowComes (wsV RX6 77 RX6 yX6_build wsX6_build) := goodIn_app (goodIn_of _ (by decide +kernel)) ggX6_rowComes_X6_build
theorem dX6_rowComes_0 : decode cX6_rowComes 0 = .ok (.iload_n 1, 1) := by decide +kernel
theorem dX6_rowComes_1 : decode cX6_rowComes 1 = .ok (.invokestatic 87, 3) := by decide +kernel
theorem dX6_rowComes_4 : decode cX6_rowComes 4 = .ok (.istore_n 3, 1) := by decide +kernel
theorem dX6_rowComes_5 : decode cX6_rowComes 5 = .ok (.iload_n 1, 1) := by decide +kernel
theorem dX6_rowComes_6 : decode cX6_rowComes 6 = .ok (.invokestatic 91, 3) := by decide +kernel
theorem dX6_rowComes_9 : decode cX6_rowComes 9 = .ok (.istore 4, 2) := by decide +kernel
theorem dX6_rowComes_11 : decode cX6_rowComes 11 = .ok (.bipush (-3), 2) := by decide +kernel
theorem dX6_rowComes_13 : decode cX6_rowComes 13 = .ok (.istore 5, 2) := by decide +kernel
theorem dX6_rowComes_15 : decode cX6_rowComes 15 = .ok (.bipush (-3), 2) := by decide +kernel
theorem dX6_rowComes_17 : decode cX6_rowComes 17 = .ok (.istore 6, 2) := by decide +kernel
theorem dX6_rowComes_19 : decode cX6_rowComes 19 = .ok (.iconst 0, 1) := by decide +kernel
theorem dX6_rowComes_20 : decode cX6_rowComes 20 = .ok (.istore 7, 2) := by decide +kernel
theorem dX6_rowComes_22 : decode cX6_rowComes 22 = .ok (.iload 7, 2) := by decide +kernel
theorem dX6_rowComes_24 : decode cX6_rowComes 24 = .ok (.bipush 64, 2) := by decide +kernel
theorem dX6_rowComes_26 : decode cX6_rowComes 26 = .ok (.if_icmp .ge 87, 3) := by decide +kernel
theorem dX6_rowComes_29 : decode cX6_rowComes 29 = .ok (.aload_n 0, 1) := by decide +kernel
theorem dX6_rowComes_30 : decode cX6_rowComes 30 = .ok (.getfield 49, 3) := by decide +kernel
theorem dX6_rowComes_33 : decode cX6_rowComes 33 = .ok (.iload 7, 2) := by decide +kernel
theorem dX6_rowComes_35 : decode cX6_rowComes 35 = .ok (.iload 7, 2) := by decide +kernel
theorem dX6_rowComes_37 : decode cX6_rowComes 37 = .ok (.iload_n 3, 1) := by decide +kernel
theorem dX6_rowComes_38 : decode cX6_rowComes 38 = .ok (.iload 4, 2) := by decide +kernel
theorem dX6_rowComes_40 : decode cX6_rowComes 40 = .ok (.invokestatic 66, 3) := by decide +kernel
theorem dX6_rowComes_43 : decode cX6_rowComes 43 = .ok (.ifCond .eq 13, 3) := by decide +kernel
theorem dX6_rowComes_46 : decode cX6_rowComes 46 = .ok (.aload_n 0, 1) := by decide +kernel
theorem dX6_rowComes_47 : decode cX6_rowComes 47 = .ok (.getfield 46, 3) := by decide +kernel
theorem dX6_rowComes_50 : decode cX6_rowComes 50 = .ok (.iload 7, 2) := by decide +kernel
theorem dX6_rowComes_52 : decode cX6_rowComes 52 = .ok (.laload, 1) := by decide +kernel
theorem dX6_rowComes_53 : decode cX6_rowComes 53 = .ok (.goto 4, 3) := by decide +kernel
theorem dX6_rowComes_56 : decode cX6_rowComes 56 = .ok (.lconst 0, 1) := by decide +kernel
theorem dX6_rowComes_57 : decode cX6_rowComes 57 = .ok (.lastore, 1) := by decide +kernel
theorem dX6_rowComes_58 : decode cX6_rowComes 58 = .ok (.iload 5, 2) := by decide +kernel
theorem dX6_rowComes_60 : decode cX6_rowComes 60 = .ok (.bipush (-3), 2) := by decide +kernel
theorem dX6_rowComes_62 : decode cX6_rowComes 62 = .ok (.if_icmp .ne 20, 3) := by decide +kernel
theorem dX6_rowComes_65 : decode cX6_rowComes 65 = .ok (.aload_n 0, 1) := by decide +kernel
theorem dX6_rowComes_66 : decode cX6_rowComes 66 = .ok (.getfield 49, 3) := by decide +kernel
theorem dX6_rowComes_69 : decode cX6_rowComes 69 = .ok (.iload 7, 2) := by decide +kernel
theorem dX6_rowComes_71 : decode cX6_rowComes 71 = .ok (.laload, 1) := by decide +kernel
theorem dX6_rowComes_72 : decode cX6_rowComes 72 = .ok (.lconst 0, 1) := by decide +kernel
theorem dX6_rowComes_73 : decode cX6_rowComes 73 = .ok (.lcmp, 1) := by decide +kernel
theorem dX6_rowComes_74 : decode cX6_rowComes 74 = .ok (.ifCond .eq 8, 3) := by decide +kernel
theorem dX6_rowComes_77 : decode cX6_rowComes 77 = .ok (.iload 7, 2) := by decide +kernel
theorem dX6_rowComes_79 : decode cX6_rowComes 79 = .ok (.goto 5, 3) := by decide +kernel
theorem dX6_rowComes_82 : decode cX6_rowComes 82 = .ok (.iload 5, 2) := by decide +kernel
theorem dX6_rowComes_84 : decode cX6_rowComes 84 = .ok (.istore 5, 2) := by decide +kernel
theorem dX6_rowComes_86 : decode cX6_rowComes 86 = .ok (.aload_n 0, 1) := by decide +kernel
theorem dX6_rowComes_87 : decode cX6_rowComes 87 = .ok (.getfield 49, 3) := by decide +kernel
theorem dX6_rowComes_90 : decode cX6_rowComes 90 = .ok (.iload 7, 2) := by decide +kernel
theorem dX6_rowComes_92 : decode cX6_rowComes 92 = .ok (.laload, 1) := by decide +kernel
theorem dX6_rowComes_93 : decode cX6_rowComes 93 = .ok (.lconst 0, 1) := by decide +kernel
theorem dX6_rowComes_94 : decode cX6_rowComes 94 = .ok (.lcmp, 1) := by decide +kernel
theorem dX6_rowComes_95 : decode cX6_rowComes 95 = .ok (.ifCond .eq 8, 3) := by decide +kernel
theorem dX6_rowComes_98 : decode cX6_rowComes 98 = .ok (.iload 7, 2) := by decide +kernel
theorem dX6_rowComes_100 : decode cX6_rowComes 100 = .ok (.goto 5, 3) := by decide +kernel
theorem dX6_rowComes_103 : decode cX6_rowComes 103 = .ok (.iload 6, 2) := by decide +kernel
theorem dX6_rowComes_105 : decode cX6_rowComes 105 = .ok (.istore 6, 2) := by decide +kernel
theorem dX6_rowComes_107 : decode cX6_rowComes 107 = .ok (.iinc 7 1, 3) := by decide +kernel
theorem dX6_rowComes_110 : decode cX6_rowComes 110 = .ok (.goto (-88), 3) := by decide +kernel
theorem dX6_rowComes_113 : decode cX6_rowComes 113 = .ok (.iload_n 2, 1) := by decide +kernel
theorem dX6_rowComes_114 : decode cX6_rowComes 114 = .ok (.iconst 1, 1) := by decide +kernel
theorem dX6_rowComes_115 : decode cX6_rowComes 115 = .ok (.if_icmp .ne 36, 3) := by decide +kernel
theorem dX6_rowComes_118 : decode cX6_rowComes 118 = .ok (.iload 5, 2) := by decide +kernel
theorem dX6_rowComes_120 : decode cX6_rowComes 120 = .ok (.bipush (-3), 2) := by decide +kernel
theorem dX6_rowComes_122 : decode cX6_rowComes 122 = .ok (.if_icmp .ne 13, 3) := by decide +kernel
theorem dX6_rowComes_125 : decode cX6_rowComes 125 = .ok (.aload_n 0, 1) := by decide +kernel
theorem dX6_rowComes_126 : decode cX6_rowComes 126 = .ok (.getfield 49, 3) := by decide +kernel
theorem dX6_rowComes_129 : decode cX6_rowComes 129 = .ok (.iload_n 3, 1) := by decide +kernel
theorem dX6_rowComes_130 : decode cX6_rowComes 130 = .ok (.lconst 1, 1) := by decide +kernel
theorem dX6_rowComes_131 : decode cX6_rowComes 131 = .ok (.lastore, 1) := by decide +kernel
theorem dX6_rowComes_132 : decode cX6_rowComes 132 = .ok (.goto 19, 3) := by decide +kernel
theorem dX6_rowComes_135 : decode cX6_rowComes 135 = .ok (.aload_n 0, 1) := by decide +kernel
theorem dX6_rowComes_136 : decode cX6_rowComes 136 = .ok (.getfield 49, 3) := by decide +kernel
theorem dX6_rowComes_139 : decode cX6_rowComes 139 = .ok (.iload 5, 2) := by decide +kernel
theorem dX6_rowComes_141 : decode cX6_rowComes 141 = .ok (.aload_n 0, 1) := by decide +kernel
theorem dX6_rowComes_142 : decode cX6_rowComes 142 = .ok (.getfield 49, 3) := by decide +kernel
theorem dX6_rowComes_145 : decode cX6_rowComes 145 = .ok (.iload 5, 2) := by decide +kernel
theorem dX6_rowComes_147 : decode cX6_rowComes 147 = .ok (.laload, 1) := by decide +kernel
theorem dX6_rowComes_148 : decode cX6_rowComes 148 = .ok (.lconst 1, 1) := by decide +kernel
theorem dX6_rowComes_149 : decode cX6_rowComes 149 = .ok (.lxor, 1) := by decide +kernel
theorem dX6_rowComes_150 : decode cX6_rowComes 150 = .ok (.lastore, 1) := by decide +kernel
theorem dX6_rowComes_151 : decode cX6_rowComes 151 = .ok (.iload_n 2, 1) := by decide +kernel
theorem dX6_rowComes_152 : decode cX6_rowComes 152 = .ok (.iconst 2, 1) := by decide +kernel
theorem dX6_rowComes_153 : decode cX6_rowComes 153 = .ok (.if_icmp .ne 18, 3) := by decide +kernel
theorem dX6_rowComes_156 : decode cX6_rowComes 156 = .ok (.iload 6, 2) := by decide +kernel
theorem dX6_rowComes_158 : decode cX6_rowComes 158 = .ok (.bipush (-3), 2) := by decide +kernel
theorem dX6_rowComes_160 : decode cX6_rowComes 160 = .ok (.if_icmp .eq 11, 3) := by decide +kernel
theorem dX6_rowComes_163 : decode cX6_rowComes 163 = .ok (.aload_n 0, 1) := by decide +kernel
theorem dX6_rowComes_164 : decode cX6_rowComes 164 = .ok (.getfield 49, 3) := by decide +kernel
theorem dX6_rowComes_167 : decode cX6_rowComes 167 = .ok (.iload 6, 2) := by decide +kernel
theorem dX6_rowComes_169 : decode cX6_rowComes 169 = .ok (.lconst 0, 1) := by decide +kernel
theorem dX6_rowComes_170 : decode cX6_rowComes 170 = .ok (.lastore, 1) := by decide +kernel
theorem dX6_rowComes_171 : decode cX6_rowComes 171 = .ok (.aload_n 0, 1) := by decide +kernel
theorem dX6_rowComes_172 : decode cX6_rowComes 172 = .ok (.aload_n 0, 1) := by decide +kernel
theorem dX6_rowComes_173 : decode cX6_rowComes 173 = .ok (.getfield 127, 3) := by decide +kernel
theorem dX6_rowComes_176 : decode cX6_rowComes 176 = .ok (.iconst 4, 1) := by decide +kernel
theorem dX6_rowComes_177 : decode cX6_rowComes 177 = .ok (.iadd, 1) := by decide +kernel
theorem dX6_rowComes_178 : decode cX6_rowComes 178 = .ok (.putfield 127, 3) := by decide +kernel
theorem dX6_rowComes_181 : decode cX6_rowComes 181 = .ok (.iload_n 3, 1) := by decide +kernel
theorem dX6_rowComes_182 : decode cX6_rowComes 182 = .ok (.istore 7, 2) := by decide +kernel
theorem dX6_rowComes_184 : decode cX6_rowComes 184 = .ok (.iload 7, 2) := by decide +kernel
theorem dX6_rowComes_186 : decode cX6_rowComes 186 = .ok (.iload 4, 2) := by decide +kernel
theorem dX6_rowComes_188 : decode cX6_rowComes 188 = .ok (.if_icmp .gt 39, 3) := by decide +kernel
theorem dX6_rowComes_191 : decode cX6_rowComes 191 = .ok (.aload_n 0, 1) := by decide +kernel
theorem dX6_rowComes_192 : decode cX6_rowComes 192 = .ok (.aload_n 0, 1) := by decide +kernel
theorem dX6_rowComes_193 : decode cX6_rowComes 193 = .ok (.getfield 49, 3) := by decide +kernel
theorem dX6_rowComes_196 : decode cX6_rowComes 196 = .ok (.iload 7, 2) := by decide +kernel
theorem dX6_rowComes_198 : decode cX6_rowComes 198 = .ok (.laload, 1) := by decide +kernel
theorem dX6_rowComes_199 : decode cX6_rowComes 199 = .ok (.lconst 0, 1) := by decide +kernel
theorem dX6_rowComes_200 : decode cX6_rowComes 200 = .ok (.lcmp, 1) := by decide +kernel
theorem dX6_rowComes_201 : decode cX6_rowComes 201 = .ok (.ifCond .eq 13, 3) := by decide +kernel
theorem dX6_rowComes_204 : decode cX6_rowComes 204 = .ok (.aload_n 0, 1) := by decide +kernel
theorem dX6_rowComes_205 : decode cX6_rowComes 205 = .ok (.getfield 127, 3) := by decide +kernel
theorem dX6_rowComes_208 : decode cX6_rowComes 208 = .ok (.bipush 12, 2) := by decide +kernel
theorem dX6_rowComes_210 : decode cX6_rowComes 210 = .ok (.iadd, 1) := by decide +kernel
theorem dX6_rowComes_211 : decode cX6_rowComes 211 = .ok (.goto 7, 3) := by decide +kernel
theorem dX6_rowComes_214 : decode cX6_rowComes 214 = .ok (.aload_n 0, 1) := by decide +kernel
theorem dX6_rowComes_215 : decode cX6_rowComes 215 = .ok (.getfield 127, 3) := by decide +kernel
theorem dX6_rowComes_218 : decode cX6_rowComes 218 = .ok (.putfield 127, 3) := by decide +kernel
theorem dX6_rowComes_221 : decode cX6_rowComes 221 = .ok (.iinc 7 1, 3) := by decide +kernel
theorem dX6_rowComes_224 : decode cX6_rowComes 224 = .ok (.goto (-40), 3) := by decide +kernel
theorem dX6_rowComes_227 : decode cX6_rowComes 227 = .ok (.aload_n 0, 1) := by decide +kernel
