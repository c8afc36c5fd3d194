theorem dX3_init_19 : decode cX3_init 19 = .ok (.putfield 15, 3) := by decide +kernel
theorem dX3_init_22 : decode cX3_init 22 = .ok (.aload_n 0, 1) := by decide +kernel
theorem dX3_init_23 : decode cX3_init 23 = .ok (.iconst 0, 1) := by decide +kernel
theorem dX3_init_24 : decode cX3_init 24 = .ok (.putfield 19, 3) := by decide +kernel
theorem dX3_init_27 : decode cX3_init 27 = .ok (.return_, 1) := by decide +kernel
theorem dX3_hasHeight_0 : decode cX3_hasHeight 0 = .ok (.iload_n 1, 1) := by decide +kernel
theorem dX3_hasHeight_1 : decode cX3_hasHeight 1 = .ok (.ifCond .lt 15, 3) := by decide +kernel
theorem dX3_hasHeight_4 : decode cX3_hasHeight 4 = .ok (.iload_n 1, 1) := by decide +kernel
theorem dX3_hasHeight_5 : decode cX3_hasHeight 5 = .ok (.aload_n 0, 1) := by decide +kernel
theorem dX3_hasHeight_6 : decode cX3_hasHeight 6 = .ok (.getfield 19, 3) := by decide +kernel
theorem dX3_hasHeight_9 : decode cX3_hasHeight 9 = .ok (.if_icmp .gt 7, 3) := by decide +kernel
theorem dX3_hasHeight_12 : decode cX3_hasHeight 12 = .ok (.iconst 1, 1) := by decide +kernel
theorem dX3_hasHeight_13 : decode cX3_hasHeight 13 = .ok (.goto 4, 3) := by decide +kernel
theorem dX3_hasHeight_16 : decode cX3_hasHeight 16 = .ok (.iconst 0, 1) := by decide +kernel
theorem dX3_hasHeight_17 : decode cX3_hasHeight 17 = .ok (.ireturn, 1) := by decide +kernel
theorem dX3_append_0 : decode cX3_append 0 = .ok (.aload_n 0, 1) := by decide +kernel
theorem dX3_append_1 : decode cX3_append 1 = .ok (.getfield 19, 3) := by decide +kernel
theorem dX3_append_4 : decode cX3_append 4 = .ok (.sipush 200, 3) := by decide +kernel
theorem dX3_append_7 : decode cX3_append 7 = .ok (.if_icmp .lt 5, 3) := by decide +kernel
theorem dX3_append_10 : decode cX3_append 10 = .ok (.iconst 0, 1) := by decide +kernel
theorem dX3_append_11 : decode cX3_append 11 = .ok (.ireturn, 1) := by decide +kernel
theorem dX3_append_12 : decode cX3_append 12 = .ok (.aload_n 0, 1) := by decide +kernel
theorem dX3_append_13 : decode cX3_append 13 = .ok (.dup, 1) := by decide +kernel
theorem dX3_append_14 : decode cX3_append 14 = .ok (.getfield 19, 3) := by decide +kernel
theorem dX3_append_17 : decode cX3_append 17 = .ok (.iconst 1, 1) := by decide +kernel
theorem dX3_append_18 : decode cX3_append 18 = .ok (.iadd, 1) := by decide +kernel
theorem dX3_append_19 : decode cX3_append 19 = .ok (.putfield 19, 3) := by decide +kernel
theorem dX3_append_22 : decode cX3_append 22 = .ok (.aload_n 0, 1) := by decide +kernel
theorem dX3_append_23 : decode cX3_append 23 = .ok (.getfield 9, 3) := by decide +kernel
theorem dX3_append_26 : decode cX3_append 26 = .ok (.aload_n 0, 1) := by decide +kernel
theorem dX3_append_27 : decode cX3_append 27 = .ok (.getfield 19, 3) := by decide +kernel
theorem dX3_append_30 : decode cX3_append 30 = .ok (.iload_n 1, 1) := by decide +kernel
theorem dX3_append_31 : decode cX3_append 31 = .ok (.iastore, 1) := by decide +kernel
theorem dX3_append_32 : decode cX3_append 32 = .ok (.aload_n 0, 1) := by decide +kernel
theorem dX3_append_33 : decode cX3_append 33 = .ok (.getfield 15, 3) := by decide +kernel
theorem dX3_append_36 : decode cX3_append 36 = .ok (.aload_n 0, 1) := by decide +kernel
theorem dX3_append_37 : decode cX3_append 37 = .ok (.getfield 19, 3) := by decide +kernel
theorem dX3_append_40 : decode cX3_append 40 = .ok (.lload_n 2, 1) := by decide +kernel
theorem dX3_append_41 : decode cX3_append 41 = .ok (.lastore, 1) := by decide +kernel
theorem dX3_append_42 : decode cX3_append 42 = .ok (.iconst 1, 1) := by decide +kernel
theorem dX3_append_43 : decode cX3_append 43 = .ok (.ireturn, 1) := by decide +kernel
theorem dX3_valueAt_0 : decode cX3_valueAt 0 = .ok (.iload_n 1, 1) := by decide +kernel
theorem dX3_valueAt_1 : decode cX3_valueAt 1 = .ok (.aload_n 0, 1) := by decide +kernel
theorem dX3_valueAt_2 : decode cX3_valueAt 2 = .ok (.getfield 19, 3) := by decide +kernel
theorem dX3_valueAt_5 : decode cX3_valueAt 5 = .ok (.invokestatic 23, 3) := by decide +kernel
theorem dX3_valueAt_8 : decode cX3_valueAt 8 = .ok (.istore_n 3, 1) := by decide +kernel
theorem dX3_valueAt_9 : decode cX3_valueAt 9 = .ok (.iload_n 3, 1) := by decide +kernel
theorem dX3_valueAt_10 : decode cX3_valueAt 10 = .ok (.iconst 1, 1) := by decide +kernel
theorem dX3_valueAt_11 : decode cX3_valueAt 11 = .ok (.if_icmp .lt 26, 3) := by decide +kernel
theorem dX3_valueAt_14 : decode cX3_valueAt 14 = .ok (.aload_n 0, 1) := by decide +kernel
theorem dX3_valueAt_15 : decode cX3_valueAt 15 = .ok (.getfield 9, 3) := by decide +kernel
theorem dX3_valueAt_18 : decode cX3_valueAt 18 = .ok (.iload_n 3, 1) := by decide +kernel
theorem dX3_valueAt_19 : decode cX3_valueAt 19 = .ok (.iaload, 1) := by decide +kernel
theorem dX3_valueAt_20 : decode cX3_valueAt 20 = .ok (.iload_n 2, 1) := by decide +kernel
theorem dX3_valueAt_21 : decode cX3_valueAt 21 = .ok (.if_icmp .ne 10, 3) := by decide +kernel
theorem dX3_valueAt_24 : decode cX3_valueAt 24 = .ok (.aload_n 0, 1) := by decide +kernel
theorem dX3_valueAt_25 : decode cX3_valueAt 25 = .ok (.getfield 15, 3) := by decide +kernel
theorem dX3_valueAt_28 : decode cX3_valueAt 28 = .ok (.iload_n 3, 1) := by decide +kernel
theorem dX3_valueAt_29 : decode cX3_valueAt 29 = .ok (.laload, 1) := by decide +kernel
theorem dX3_valueAt_30 : decode cX3_valueAt 30 = .ok (.lreturn, 1) := by decide +kernel
theorem dX3_valueAt_31 : decode cX3_valueAt 31 = .ok (.iinc 3 (-1), 3) := by decide +kernel
theorem dX3_valueAt_34 : decode cX3_valueAt 34 = .ok (.goto (-25), 3) := by decide +kernel
theorem dX3_valueAt_37 : decode cX3_valueAt 37 = .ok (.lconst 0, 1) := by decide +kernel
theorem dX3_valueAt_38 : decode cX3_valueAt 38 = .ok (.lreturn, 1) := by decide +kernel
set_option maxRecDepth 20000 in
theorem ggX3_copyState_X4_isPath : GoodIn wsX3_copyState wsX4_isPath := goodIn_r _ [12] (by decide +kernel) (by decide +kernel)
set_option maxRecDepth 20000 in
theorem gX3_copyState_X4_isPath : GoodIn wsX3_copyState (va_wsS RX3 34 yX4_isPath wsX4_isPath) := goodIn_app (goodIn_of _ (by decide +kernel)) ggX3_copyState_X4_isPath
set_option maxRecDepth 20000 in
theorem ggX3_copyState_X4_renew : GoodIn wsX3_copyState wsX4_renew := goodIn_r _ [16, 17, 18, 19, 20, 11, 21, 22, 23, 24, 25, 26, 27, 28, 29, 30, 31, 32, 33, 34] (by decide +kernel) (by decide +kernel)
set_option maxRecDepth 20000 in
theorem gX3_copyState_X4_renew : GoodIn wsX3_copyState (wsV RX3 38 RX4 yX4_renew wsX4_renew) := goodIn_app (goodIn_of _ (by decide +kernel)) ggX3_copyState_X4_renew
theorem dX3_copyState_0 : decode cX3_copyState 0 = .ok (.iconst 0, 1) := by decide +kernel
theorem dX3_copyState_1 : decode cX3_copyState 1 = .ok (.istore_n 3, 1) := by decide +kernel
theorem dX3_copyState_2 : decode cX3_copyState 2 = .ok (.iload_n 3, 1) := by decide +kernel
theorem dX3_copyState_3 : decode cX3_copyState 3 = .ok (.bipush 64, 2) := by decide +kernel
theorem dX3_copyState_5 : decode cX3_copyState 5 = .ok (.if_icmp .ge 16, 3) := by decide +kernel
theorem dX3_copyState_8 : decode cX3_copyState 8 = .ok (.aload_n 2, 1) := by decide +kernel
theorem dX3_copyState_9 : decode cX3_copyState 9 = .ok (.getfield 31, 3) := by decide +kernel
theorem dX3_copyState_12 : decode cX3_copyState 12 = .ok (.iload_n 3, 1) := by decide +kernel
theorem dX3_copyState_13 : decode cX3_copyState 13 = .ok (.lconst 0, 1) := by decide +kernel
theorem dX3_copyState_14 : decode cX3_copyState 14 = .ok (.lastore, 1) := by decide +kernel
theorem dX3_copyState_15 : decode cX3_copyState 15 = .ok (.iinc 3 1, 3) := by decide +kernel
theorem dX3_copyState_18 : decode cX3_copyState 18 = .ok (.goto (-16), 3) := by decide +kernel
theorem dX3_copyState_21 : decode cX3_copyState 21 = .ok (.iload_n 1, 1) := by decide +kernel
theorem dX3_copyState_22 : decode cX3_copyState 22 = .ok (.aload_n 0, 1) := by decide +kernel
theorem dX3_copyState_23 : decode cX3_copyState 23 = .ok (.getfield 19, 3) := by decide +kernel
theorem dX3_copyState_26 : decode cX3_copyState 26 = .ok (.invokestatic 23, 3) := by decide +kernel
theorem dX3_copyState_29 : decode cX3_copyState 29 = .ok (.istore_n 3, 1) := by decide +kernel
theorem dX3_copyState_30 : decode cX3_copyState 30 = .ok (.iconst 1, 1) := by decide +kernel
theorem dX3_copyState_31 : decode cX3_copyState 31 = .ok (.istore 4, 2) := by decide +kernel
theorem dX3_copyState_33 : decode cX3_copyState 33 = .ok (.iload 4, 2) := by decide +kernel
theorem dX3_copyState_35 : decode cX3_copyState 35 = .ok (.iload_n 3, 1) := by decide +kernel
theorem dX3_copyState_36 : decode cX3_copyState 36 = .ok (.if_icmp .gt 40, 3) := by decide +kernel
theorem dX3_copyState_39 : decode cX3_copyState 39 = .ok (.aload_n 0, 1) := by decide +kernel
theorem dX3_copyState_40 : decode cX3_copyState 40 = .ok (.getfield 9, 3) := by decide +kernel
theorem dX3_copyState_43 : decode cX3_copyState 43 = .ok (.iload 4, 2) := by decide +kernel
theorem dX3_copyState_45 : decode cX3_copyState 45 = .ok (.iaload, 1) := by decide +kernel
theorem dX3_copyState_46 : decode cX3_copyState 46 = .ok (.istore 5, 2) := by decide +kernel
theorem dX3_copyState_48 : decode cX3_copyState 48 = .ok (.iload 5, 2) := by decide +kernel
theorem dX3_copyState_50 : decode cX3_copyState 50 = .ok (.invokestatic 34, 3) := by decide +kernel
theorem dX3_copyState_53 : decode cX3_copyState 53 = .ok (.ifCond .eq 17, 3) := by decide +kernel
theorem dX3_copyState_56 : decode cX3_copyState 56 = .ok (.aload_n 2, 1) := by decide +kernel
theorem dX3_copyState_57 : decode cX3_copyState 57 = .ok (.getfield 31, 3) := by decide +kernel
theorem dX3_copyState_60 : decode cX3_copyState 60 = .ok (.iload 5, 2) := by decide +kernel
theorem dX3_copyState_62 : decode cX3_copyState 62 = .ok (.aload_n 0, 1) := by decide +kernel
theorem dX3_copyState_63 : decode cX3_copyState 63 = .ok (.getfield 15, 3) := by decide +kernel
theorem dX3_copyState_66 : decode cX3_copyState 66 = .ok (.iload 4, 2) := by decide +kernel
theorem dX3_copyState_68 : decode cX3_copyState 68 = .ok (.laload, 1) := by decide +kernel
theorem dX3_copyState_69 : decode cX3_copyState 69 = .ok (.lastore, 1) := by decide +kernel
theorem dX3_copyState_70 : decode cX3_copyState 70 = .ok (.iinc 4 1, 3) := by decide +kernel
theorem dX3_copyState_73 : decode cX3_copyState 73 = .ok (.goto (-40), 3) := by decide +kernel
theorem dX3_copyState_76 : decode cX3_copyState 76 = .ok (.aload_n 2, 1) := by decide +kernel
theorem dX3_copyState_77 : decode cX3_copyState 77 = .ok (.iconst 1, 1) := by decide +kernel
theorem dX3_copyState_78 : decode cX3_copyState 78 = .ok (.invokevirtual 38, 3) := by decide +kernel
theorem dX3_copyState_81 : decode cX3_copyState 81 = .ok (.return_, 1) := by decide +kernel
theorem dX4_init_0 : decode cX4_init 0 = .ok (.aload_n 0, 1) := by decide +kernel
theorem dX4_init_1 : decode cX4_init 1 = .ok (.invokespecial 1, 3) := by decide +kernel
theorem dX4_init_4 : decode cX4_init 4 = .ok (.aload_n 0, 1) := by decide +kernel
theorem dX4_init_5 : decode cX4_init 5 = .ok (.bipush 64, 2) := by decide +kernel
theorem dX4_init_7 : decode cX4_init 7 = .ok (.newarray .long, 2) := by decide +kernel
theorem dX4_init_9 : decode cX4_init 9 = .ok (.putfield 9, 3) := by decide +kernel
theorem dX4_init_12 : decode cX4_init 12 = .ok (.aload_n 0, 1) := by decide +kernel
theorem dX4_init_13 : decode cX4_init 13 = .ok (.sipush 128, 3) := by decide +kernel
theorem dX4_init_16 : decode cX4_init 16 = .ok (.newarray .long, 2) := by decide +kernel
theorem dX4_init_18 : decode cX4_init 18 = .ok (.putfield 13, 3) := by decide +kernel
theorem dX4_init_21 : decode cX4_init 21 = .ok (.return_, 1) := by decide +kernel
theorem dX4_isPath_0 : decode cX4_isPath 0 = .ok (.iload_n 0, 1) := by decide +kernel
theorem dX4_isPath_1 : decode cX4_isPath 1 = .ok (.ifCond .lt 13, 3) := by decide +kernel
theorem dX4_isPath_4 : decode cX4_isPath 4 = .ok (.iload_n 0, 1) := by decide +kernel
theorem dX4_isPath_5 : decode cX4_isPath 5 = .ok (.bipush 64, 2) := by decide +kernel
theorem dX4_isPath_7 : decode cX4_isPath 7 = .ok (.if_icmp .ge 7, 3) := by decide +kernel
theorem dX4_isPath_10 : decode cX4_isPath 10 = .ok (.iconst 1, 1) := by decide +kernel
theorem dX4_isPath_11 : decode cX4_isPath 11 = .ok (.goto 4, 3) := by decide +kernel
theorem dX4_isPath_14 : decode cX4_isPath 14 = .ok (.iconst 0, 1) := by decide +kernel
theorem dX4_isPath_15 : decode cX4_isPath 15 = .ok (.ireturn, 1) := by decide +kernel
theorem dX4_isNode_0 : decode cX4_isNode 0 = .ok (.iload_n 0, 1) := by decide +kernel
theorem dX4_isNode_1 : decode cX4_isNode 1 = .ok (.iconst 1, 1) := by decide +kernel
theorem dX4_isNode_2 : decode cX4_isNode 2 = .ok (.if_icmp .lt 14, 3) := by decide +kernel
theorem dX4_isNode_5 : decode cX4_isNode 5 = .ok (.iload_n 0, 1) := by decide +kernel
theorem dX4_isNode_6 : decode cX4_isNode 6 = .ok (.sipush 128, 3) := by decide +kernel
theorem dX4_isNode_9 : decode cX4_isNode 9 = .ok (.if_icmp .ge 7, 3) := by decide +kernel
theorem dX4_isNode_12 : decode cX4_isNode 12 = .ok (.iconst 1, 1) := by decide +kernel
theorem dX4_isNode_13 : decode cX4_isNode 13 = .ok (.goto 4, 3) := by decide +kernel
theorem dX4_isNode_16 : decode cX4_isNode 16 = .ok (.iconst 0, 1) := by decide +kernel
theorem dX4_isNode_17 : decode cX4_isNode 17 = .ok (.ireturn, 1) := by decide +kernel
theorem dX4_isLeaf_0 : decode cX4_isLeaf 0 = .ok (.iload_n 0, 1) := by decide +kernel
theorem dX4_isLeaf_1 : decode cX4_isLeaf 1 = .ok (.bipush 64, 2) := by decide +kernel
theorem dX4_isLeaf_3 : decode cX4_isLeaf 3 = .ok (.if_icmp .lt 14, 3) := by decide +kernel
theorem dX4_isLeaf_6 : decode cX4_isLeaf 6 = .ok (.iload_n 0, 1) := by decide +kernel
theorem dX4_isLeaf_7 : decode cX4_isLeaf 7 = .ok (.sipush 128, 3) := by decide +kernel
theorem dX4_isLeaf_10 : decode cX4_isLeaf 10 = .ok (.if_icmp .ge 7, 3) := by decide +kernel
theorem dX4_isLeaf_13 : decode cX4_isLeaf 13 = .ok (.iconst 1, 1) := by decide +kernel
theorem dX4_isLeaf_14 : decode cX4_isLeaf 14 = .ok (.goto 4, 3) := by decide +kernel
theorem dX4_isLeaf_17 : decode cX4_isLeaf 17 = .ok (.iconst 0, 1) := by decide +kernel
theorem dX4_isLeaf_18 : decode cX4_isLeaf 18 = .ok (.ireturn, 1) := by decide +kernel
theorem dX4_mix_0 : decode cX4_mix 0 = .ok (.lload_n 0, 1) := by decide +kernel
theorem dX4_mix_1 : decode cX4_mix 1 = .ok (.ldc2_w 16, 3) := by decide +kernel
theorem dX4_mix_4 : decode cX4_mix 4 = .ok (.lmul, 1) := by decide +kernel
theorem dX4_mix_5 : decode cX4_mix 5 = .ok (.lload_n 2, 1) := by decide +kernel
theorem dX4_mix_6 : decode cX4_mix 6 = .ok (.bipush 23, 2) := by decide +kernel
theorem dX4_mix_8 : decode cX4_mix 8 = .ok (.lshl, 1) := by decide +kernel
theorem dX4_mix_9 : decode cX4_mix 9 = .ok (.lload_n 2, 1) := by decide +kernel
theorem dX4_mix_10 : decode cX4_mix 10 = .ok (.bipush 41, 2) := by decide +kernel
theorem dX4_mix_12 : decode cX4_mix 12 = .ok (.lushr, 1) := by decide +kernel
theorem dX4_mix_13 : decode cX4_mix 13 = .ok (.lor, 1) := by decide +kernel
theorem dX4_mix_14 : decode cX4_mix 14 = .ok (.ladd, 1) := by decide +kernel
theorem dX4_mix_15 : decode cX4_mix 15 = .ok (.lstore 4, 2) := by decide +kernel
theorem dX4_mix_17 : decode cX4_mix 17 = .ok (.lload 4, 2) := by decide +kernel
theorem dX4_mix_19 : decode cX4_mix 19 = .ok (.lload 4, 2) := by decide +kernel
theorem dX4_mix_21 : decode cX4_mix 21 = .ok (.bipush 29, 2) := by decide +kernel
theorem dX4_mix_23 : decode cX4_mix 23 = .ok (.lushr, 1) := by decide +kernel
theorem dX4_mix_24 : decode cX4_mix 24 = .ok (.lxor, 1) := by decide +kernel
theorem dX4_mix_25 : decode cX4_mix 25 = .ok (.lstore 4, 2) := by decide +kernel
theorem dX4_mix_27 : decode cX4_mix 27 = .ok (.lload 4, 2) := by decide +kernel
theorem dX4_mix_29 : decode cX4_mix 29 = .ok (.ldc2_w 18, 3) := by decide +kernel
theorem dX4_mix_32 : decode cX4_mix 32 = .ok (.lmul, 1) := by decide +kernel
theorem dX4_mix_33 : decode cX4_mix 33 = .ok (.lstore 4, 2) := by decide +kernel
theorem dX4_mix_35 : decode cX4_mix 35 = .ok (.lload 4, 2) := by decide +kernel
theorem dX4_mix_37 : decode cX4_mix 37 = .ok (.lload 4, 2) := by decide +kernel
theorem dX4_mix_39 : decode cX4_mix 39 = .ok (.bipush 32, 2) := by decide +kernel
theorem dX4_mix_41 : decode cX4_mix 41 = .ok (.lushr, 1) := by decide +kernel
theorem dX4_mix_42 : decode cX4_mix 42 = .ok (.lxor, 1) := by decide +kernel
theorem dX4_mix_43 : decode cX4_mix 43 = .ok (.lstore 4, 2) := by decide +kernel
theorem dX4_mix_45 : decode cX4_mix 45 = .ok (.lload 4, 2) := by decide +kernel
theorem dX4_mix_47 : decode cX4_mix 47 = .ok (.lreturn, 1) := by decide +kernel
theorem dX4_firstPath_0 : decode cX4_firstPath 0 = .ok (.iload_n 0, 1) := by decide +kernel
theorem dX4_firstPath_1 : decode cX4_firstPath 1 = .ok (.istore_n 1, 1) := by decide +kernel
theorem dX4_firstPath_2 : decode cX4_firstPath 2 = .ok (.iconst 0, 1) := by decide +kernel
theorem dX4_firstPath_3 : decode cX4_firstPath 3 = .ok (.istore_n 2, 1) := by decide +kernel
theorem dX4_firstPath_4 : decode cX4_firstPath 4 = .ok (.iload_n 2, 1) := by decide +kernel
theorem dX4_firstPath_5 : decode cX4_firstPath 5 = .ok (.bipush 6, 2) := by decide +kernel
theorem dX4_firstPath_7 : decode cX4_firstPath 7 = .ok (.if_icmp .ge 19, 3) := by decide +kernel
theorem dX4_firstPath_10 : decode cX4_firstPath 10 = .ok (.iload_n 1, 1) := by decide +kernel
theorem dX4_firstPath_11 : decode cX4_firstPath 11 = .ok (.bipush 64, 2) := by decide +kernel
theorem dX4_firstPath_13 : decode cX4_firstPath 13 = .ok (.if_icmp .ge 13, 3) := by decide +kernel
theorem dX4_firstPath_16 : decode cX4_firstPath 16 = .ok (.iconst 2, 1) := by decide +kernel
theorem dX4_firstPath_17 : decode cX4_firstPath 17 = .ok (.iload_n 1, 1) := by decide +kernel
theorem dX4_firstPath_18 : decode cX4_firstPath 18 = .ok (.imul, 1) := by decide +kernel
theorem dX4_firstPath_19 : decode cX4_firstPath 19 = .ok (.istore_n 1, 1) := by decide +kernel
theorem dX4_firstPath_20 : decode cX4_firstPath 20 = .ok (.iinc 2 1, 3) := by decide +kernel
theorem dX4_firstPath_23 : decode cX4_firstPath 23 = .ok (.goto (-19), 3) := by decide +kernel
theorem dX4_firstPath_26 : decode cX4_firstPath 26 = .ok (.iload_n 1, 1) := by decide +kernel
theorem dX4_firstPath_27 : decode cX4_firstPath 27 = .ok (.bipush 64, 2) := by decide +kernel
theorem dX4_firstPath_29 : decode cX4_firstPath 29 = .ok (.isub, 1) := by decide +kernel
theorem dX4_firstPath_30 : decode cX4_firstPath 30 = .ok (.ireturn, 1) := by decide +kernel
theorem dX4_lastPath_0 : decode cX4_lastPath 0 = .ok (.iload_n 0, 1) := by decide +kernel
theorem dX4_lastPath_1 : decode cX4_lastPath 1 = .ok (.istore_n 1, 1) := by decide +kernel
theorem dX4_lastPath_2 : decode cX4_lastPath 2 = .ok (.iconst 0, 1) := by decide +kernel
theorem dX4_lastPath_3 : decode cX4_lastPath 3 = .ok (.istore_n 2, 1) := by decide +kernel
theorem dX4_lastPath_4 : decode cX4_lastPath 4 = .ok (.iload_n 2, 1) := by decide +kernel
theorem dX4_lastPath_5 : decode cX4_lastPath 5 = .ok (.bipush 6, 2) := by decide +kernel
theorem dX4_lastPath_7 : decode cX4_lastPath 7 = .ok (.if_icmp .ge 21, 3) := by decide +kernel
theorem dX4_lastPath_10 : decode cX4_lastPath 10 = .ok (.iload_n 1, 1) := by decide +kernel
theorem dX4_lastPath_11 : decode cX4_lastPath 11 = .ok (.bipush 64, 2) := by decide +kernel
theorem dX4_lastPath_13 : decode cX4_lastPath 13 = .ok (.if_icmp .ge 15, 3) := by decide +kernel
theorem dX4_lastPath_16 : decode cX4_lastPath 16 = .ok (.iconst 2, 1) := by decide +kernel
theorem dX4_lastPath_17 : decode cX4_lastPath 17 = .ok (.iload_n 1, 1) := by decide +kernel
theorem dX4_lastPath_18 : decode cX4_lastPath 18 = .ok (.imul, 1) := by decide +kernel
theorem dX4_lastPath_19 : decode cX4_lastPath 19 = .ok (.iconst 1, 1) := by decide +kernel
theorem dX4_lastPath_20 : decode cX4_lastPath 20 = .ok (.iadd, 1) := by decide +kernel
theorem dX4_lastPath_21 : decode cX4_lastPath 21 = .ok (.istore_n 1, 1) := by decide +kernel
theorem dX4_lastPath_22 : decode cX4_lastPath 22 = .ok (.iinc 2 1, 3) := by decide +kernel
theorem dX4_lastPath_25 : decode cX4_lastPath 25 = .ok (.goto (-21), 3) := by decide +kernel
theorem dX4_lastPath_28 : decode cX4_lastPath 28 = .ok (.iload_n 1, 1) := by decide +kernel
theorem dX4_lastPath_29 : decode cX4_lastPath 29 = .ok (.bipush 64, 2) := by decide +kernel
theorem dX4_lastPath_31 : decode cX4_lastPath 31 = .ok (.isub, 1) := by decide +kernel
theorem dX4_lastPath_32 : decode cX4_lastPath 32 = .ok (.ireturn, 1) := by decide +kernel
set_option maxRecDepth 20000 in
theorem ggX4_valueOf_X4_isPath : GoodIn wsX4_valueOf wsX4_isPath := goodIn_r _ [5] (by decide +kernel) (by decide +kernel)
set_option maxRecDepth 20000 in
theorem gX4_valueOf_X4_isPath : GoodIn wsX4_valueOf (va_wsS RX4 20 yX4_isPath wsX4_isPath) := goodIn_app (goodIn_of _ (by decide +kernel)) ggX4_valueOf_X4_isPath
theorem dX4_valueOf_0 : decode cX4_valueOf 0 = .ok (.iload_n 1, 1) := by decide +kernel
theorem dX4_valueOf_1 : decode cX4_valueOf 1 = .ok (.invokestatic 20, 3) := by decide +kernel
theorem dX4_valueOf_4 : decode cX4_valueOf 4 = .ok (.ifCond .eq 12, 3) := by decide +kernel
theorem dX4_valueOf_7 : decode cX4_valueOf 7 = .ok (.aload_n 0, 1) := by decide +kernel
theorem dX4_valueOf_8 : decode cX4_valueOf 8 = .ok (.getfield 9, 3) := by decide +kernel
theorem dX4_valueOf_11 : decode cX4_valueOf 11 = .ok (.iload_n 1, 1) := by decide +kernel
theorem dX4_valueOf_12 : decode cX4_valueOf 12 = .ok (.laload, 1) := by decide +kernel
theorem dX4_valueOf_13 : decode cX4_valueOf 13 = .ok (.goto 4, 3) := by decide +kernel
theorem dX4_valueOf_16 : decode cX4_valueOf 16 = .ok (.lconst 0, 1) := by decide +kernel
theorem dX4_valueOf_17 : decode cX4_valueOf 17 = .ok (.lreturn, 1) := by decide +kernel
set_option maxRecDepth 20000 in
theorem ggX4_digestOf_X4_isNode : GoodIn wsX4_digestOf wsX4_isNode := goodIn_r _ [5] (by decide +kernel) (by decide +kernel)
set_option maxRecDepth 20000 in
theorem gX4_digestOf_X4_isNode : GoodIn wsX4_digestOf (va_wsS RX4 24 yX4_isNode wsX4_isNode) := goodIn_app (goodIn_of _ (by decide +kernel)) ggX4_digestOf_X4_isNode
theorem dX4_digestOf_0 : decode cX4_digestOf 0 = .ok (.iload_n 1, 1) := by decide +kernel
theorem dX4_digestOf_1 : decode cX4_digestOf 1 = .ok (.invokestatic 24, 3) := by decide +kernel
theorem dX4_digestOf_4 : decode cX4_digestOf 4 = .ok (.ifCond .eq 12, 3) := by decide +kernel
theorem dX4_digestOf_7 : decode cX4_digestOf 7 = .ok (.aload_n 0, 1) := by decide +kernel
theorem dX4_digestOf_8 : decode cX4_digestOf 8 = .ok (.getfield 13, 3) := by decide +kernel
theorem dX4_digestOf_11 : decode cX4_digestOf 11 = .ok (.iload_n 1, 1) := by decide +kernel
theorem dX4_digestOf_12 : decode cX4_digestOf 12 = .ok (.laload, 1) := by decide +kernel
theorem dX4_digestOf_13 : decode cX4_digestOf 13 = .ok (.goto 4, 3) := by decide +kernel
theorem dX4_digestOf_16 : decode cX4_digestOf 16 = .ok (.lconst 0, 1) := by decide +kernel
theorem dX4_digestOf_17 : decode cX4_digestOf 17 = .ok (.lreturn, 1) := by decide +kernel
set_option maxRecDepth 20000 in
theorem ggX4_put_X4_isPath : GoodIn wsX4_put wsX4_isPath := goodIn_r _ [5] (by decide +kernel) (by decide +kernel)
set_option maxRecDepth 20000 in
theorem gX4_put_X4_isPath : GoodIn wsX4_put (va_wsS RX4 20 yX4_isPath wsX4_isPath) := goodIn_app (goodIn_of _ (by decide +kernel)) ggX4_put_X4_isPath
set_option maxRecDepth 20000 in
theorem ggX4_put_X4_renew : GoodIn wsX4_put wsX4_renew := goodIn_r _ [9, 10, 1, 11, 12, 4, 13, 14, 15, 16, 17, 18, 19, 20, 21, 22, 23, 24, 25, 26] (by decide +kernel) (by decide +kernel)
set_option maxRecDepth 20000 in
theorem gX4_put_X4_renew : GoodIn wsX4_put (wsV RX4 27 RX4 yX4_renew wsX4_renew) := goodIn_app (goodIn_of _ (by decide +kernel)) ggX4_put_X4_renew
theorem dX4_put_0 : decode cX4_put 0 = .ok (.iload_n 1, 1) := by decide +kernel
theorem dX4_put_1 : decode cX4_put 1 = .ok (.invokestatic 20, 3) := by decide +kernel
theorem dX4_put_4 : decode cX4_put 4 = .ok (.ifCond .eq 18, 3) := by decide +kernel
theorem dX4_put_7 : decode cX4_put 7 = .ok (.aload_n 0, 1) := by decide +kernel
theorem dX4_put_8 : decode cX4_put 8 = .ok (.getfield 9, 3) := by decide +kernel
theorem dX4_put_11 : decode cX4_put 11 = .ok (.iload_n 1, 1) := by decide +kernel
theorem dX4_put_12 : decode cX4_put 12 = .ok (.lload_n 2, 1) := by decide +kernel
theorem dX4_put_13 : decode cX4_put 13 = .ok (.lastore, 1) := by decide +kernel
theorem dX4_put_14 : decode cX4_put 14 = .ok (.aload_n 0, 1) := by decide +kernel
theorem dX4_put_15 : decode cX4_put 15 = .ok (.bipush 64, 2) := by decide +kernel
theorem dX4_put_17 : decode cX4_put 17 = .ok (.iload_n 1, 1) := by decide +kernel
theorem dX4_put_18 : decode cX4_put 18 = .ok (.iadd, 1) := by decide +kernel
theorem dX4_put_19 : decode cX4_put 19 = .ok (.invokevirtual 27, 3) := by decide +kernel
theorem dX4_put_22 : decode cX4_put 22 = .ok (.return_, 1) := by decide +kernel
set_option maxRecDepth 20000 in
theorem ggX4_emptyBelow_X4_isNode : GoodIn wsX4_emptyBelow wsX4_isNode := goodIn_r _ [5] (by decide +kernel) (by decide +kernel)
set_option maxRecDepth 20000 in
theorem gX4_emptyBelow_X4_isNode : GoodIn wsX4_emptyBelow (va_wsS RX4 24 yX4_isNode wsX4_isNode) := goodIn_app (goodIn_of _ (by decide +kernel)) ggX4_emptyBelow_X4_isNode
set_option maxRecDepth 20000 in
theorem ggX4_emptyBelow_X4_lastPath : GoodIn wsX4_emptyBelow wsX4_lastPath := goodIn_r _ [8] (by decide +kernel) (by decide +kernel)
set_option maxRecDepth 20000 in
theorem gX4_emptyBelow_X4_lastPath : GoodIn wsX4_emptyBelow (va_wsS RX4 31 yX4_lastPath wsX4_lastPath) := goodIn_app (goodIn_of _ (by decide +kernel)) ggX4_emptyBelow_X4_lastPath
set_option maxRecDepth 20000 in
theorem ggX4_emptyBelow_X4_firstPath : GoodIn wsX4_emptyBelow wsX4_firstPath := goodIn_r _ [11] (by decide +kernel) (by decide +kernel)
set_option maxRecDepth 20000 in
theorem gX4_emptyBelow_X4_firstPath : GoodIn wsX4_emptyBelow (va_wsS RX4 35 yX4_firstPath wsX4_firstPath) := goodIn_app (goodIn_of _ (by decide +kernel)) ggX4_emptyBelow_X4_firstPath
set_option maxRecDepth 20000 in
theorem ggX4_emptyBelow_X4_renew : GoodIn wsX4_emptyBelow wsX4_renew := goodIn_r _ [15, 16, 1, 2, 3, 4, 5, 9, 10, 11, 6, 7, 8, 17, 18, 19, 20, 21, 22, 23] (by decide +kernel) (by decide +kernel)
set_option maxRecDepth 20000 in
theorem gX4_emptyBelow_X4_renew : GoodIn wsX4_emptyBelow (wsV RX4 27 RX4 yX4_renew wsX4_renew) := goodIn_app (goodIn_of _ (by decide +kernel)) ggX4_emptyBelow_X4_renew
theorem dX4_emptyBelow_0 : decode cX4_emptyBelow 0 = .ok (.iload_n 1, 1) := by decide +kernel
theorem dX4_emptyBelow_1 : decode cX4_emptyBelow 1 = .ok (.invokestatic 24, 3) := by decide +kernel
theorem dX4_emptyBelow_4 : decode cX4_emptyBelow 4 = .ok (.ifCond .ne 4, 3) := by decide +kernel
theorem dX4_emptyBelow_7 : decode cX4_emptyBelow 7 = .ok (.return_, 1) := by decide +kernel
theorem dX4_emptyBelow_8 : decode cX4_emptyBelow 8 = .ok (.iload_n 1, 1) := by decide +kernel
theorem dX4_emptyBelow_9 : decode cX4_emptyBelow 9 = .ok (.invokestatic 31, 3) := by decide +kernel
theorem dX4_emptyBelow_12 : decode cX4_emptyBelow 12 = .ok (.istore_n 2, 1) := by decide +kernel
theorem dX4_emptyBelow_13 : decode cX4_emptyBelow 13 = .ok (.iload_n 1, 1) := by decide +kernel
theorem dX4_emptyBelow_14 : decode cX4_emptyBelow 14 = .ok (.invokestatic 35, 3) := by decide +kernel
theorem dX4_emptyBelow_17 : decode cX4_emptyBelow 17 = .ok (.istore_n 3, 1) := by decide +kernel
theorem dX4_emptyBelow_18 : decode cX4_emptyBelow 18 = .ok (.iload_n 3, 1) := by decide +kernel
theorem dX4_emptyBelow_19 : decode cX4_emptyBelow 19 = .ok (.iload_n 2, 1) := by decide +kernel
theorem dX4_emptyBelow_20 : decode cX4_emptyBelow 20 = .ok (.if_icmp .gt 16, 3) := by decide +kernel
theorem dX4_emptyBelow_23 : decode cX4_emptyBelow 23 = .ok (.aload_n 0, 1) := by decide +kernel
theorem dX4_emptyBelow_24 : decode cX4_emptyBelow 24 = .ok (.getfield 9, 3) := by decide +kernel
theorem dX4_emptyBelow_27 : decode cX4_emptyBelow 27 = .ok (.iload_n 3, 1) := by decide +kernel
theorem dX4_emptyBelow_28 : decode cX4_emptyBelow 28 = .ok (.lconst 0, 1) := by decide +kernel
theorem dX4_emptyBelow_29 : decode cX4_emptyBelow 29 = .ok (.lastore, 1) := by decide +kernel
theorem dX4_emptyBelow_30 : decode cX4_emptyBelow 30 = .ok (.iinc 3 1, 3) := by decide +kernel
theorem dX4_emptyBelow_33 : decode cX4_emptyBelow 33 = .ok (.goto (-15), 3) := by decide +kernel
theorem dX4_emptyBelow_36 : decode cX4_emptyBelow 36 = .ok (.aload_n 0, 1) := by decide +kernel
theorem dX4_emptyBelow_37 : decode cX4_emptyBelow 37 = .ok (.iload_n 1, 1) := by decide +kernel
theorem dX4_emptyBelow_38 : decode cX4_emptyBelow 38 = .ok (.invokevirtual 27, 3) := by decide +kernel
theorem dX4_emptyBelow_41 : decode cX4_emptyBelow 41 = .ok (.return_, 1) := by decide +kernel
set_option maxRecDepth 20000 in
theorem ggX4_copyBelow_X4_isNode : GoodIn wsX4_copyBelow wsX4_isNode := goodIn_r _ [5] (by decide +kernel) (by decide +kernel)
set_option maxRecDepth 20000 in
theorem gX4_copyBelow_X4_isNode : GoodIn wsX4_copyBelow (va_wsS RX4 24 yX4_isNode wsX4_isNode) := goodIn_app (goodIn_of _ (by decide +kernel)) ggX4_copyBelow_X4_isNode
set_option maxRecDepth 20000 in
theorem ggX4_copyBelow_X4_lastPath : GoodIn wsX4_copyBelow wsX4_lastPath := goodIn_r _ [8] (by decide +kernel) (by decide +kernel)
set_option maxRecDepth 20000 in
theorem gX4_copyBelow_X4_lastPath : GoodIn wsX4_copyBelow (va_wsS RX4 31 yX4_lastPath wsX4_lastPath) := goodIn_app (goodIn_of _ (by decide +kernel)) ggX4_copyBelow_X4_lastPath
set_option maxRecDepth 20000 in
theorem ggX4_copyBelow_X4_firstPath : GoodIn wsX4_copyBelow wsX4_firstPath := goodIn_r _ [11] (by decide +kernel) (by decide +kernel)
set_option maxRecDepth 20000 in
theorem gX4_copyBelow_X4_firstPath : GoodIn wsX4_copyBelow (va_wsS RX4 35 yX4_firstPath wsX4_firstPath) := goodIn_app (goodIn_of _ (by decide +kernel)) ggX4_copyBelow_X4_firstPath
set_option maxRecDepth 20000 in
theorem ggX4_copyBelow_X4_renew : GoodIn wsX4_copyBelow wsX4_renew := goodIn_r _ [15, 16, 1, 2, 3, 4, 5, 9, 10, 11, 6, 7, 8, 17, 18, 19, 20, 21, 22, 23] (by decide +kernel) (by decide +kernel)
set_option maxRecDepth 20000 in
theorem gX4_copyBelow_X4_renew : GoodIn wsX4_copyBelow (wsV RX4 27 RX4 yX4_renew wsX4_renew) := goodIn_app (goodIn_of _ (by decide +kernel)) ggX4_copyBelow_X4_renew
theorem dX4_copyBelow_0 : decode cX4_copyBelow 0 = .ok (.iload_n 1, 1) := by decide +kernel
theorem dX4_copyBelow_1 : decode cX4_copyBelow 1 = .ok (.invokestatic 24, 3) := by decide +kernel
theorem dX4_copyBelow_4 : decode cX4_copyBelow 4 = .ok (.ifCond .ne 4, 3) := by decide +kernel
theorem dX4_copyBelow_7 : decode cX4_copyBelow 7 = .ok (.return_, 1) := by decide +kernel
theorem dX4_copyBelow_8 : decode cX4_copyBelow 8 = .ok (.iload_n 1, 1) := by decide +kernel
theorem dX4_copyBelow_9 : decode cX4_copyBelow 9 = .ok (.invokestatic 31, 3) := by decide +kernel
theorem dX4_copyBelow_12 : decode cX4_copyBelow 12 = .ok (.istore_n 3, 1) := by decide +kernel
theorem dX4_copyBelow_13 : decode cX4_copyBelow 13 = .ok (.iload_n 1, 1) := by decide +kernel
theorem dX4_copyBelow_14 : decode cX4_copyBelow 14 = .ok (.invokestatic 35, 3) := by decide +kernel
theorem dX4_copyBelow_17 : decode cX4_copyBelow 17 = .ok (.istore 4, 2) := by decide +kernel
theorem dX4_copyBelow_19 : decode cX4_copyBelow 19 = .ok (.iload 4, 2) := by decide +kernel
theorem dX4_copyBelow_21 : decode cX4_copyBelow 21 = .ok (.iload_n 3, 1) := by decide +kernel
theorem dX4_copyBelow_22 : decode cX4_copyBelow 22 = .ok (.if_icmp .gt 23, 3) := by decide +kernel
theorem dX4_copyBelow_25 : decode cX4_copyBelow 25 = .ok (.aload_n 0, 1) := by decide +kernel
theorem dX4_copyBelow_26 : decode cX4_copyBelow 26 = .ok (.getfield 9, 3) := by decide +kernel
theorem dX4_copyBelow_29 : decode cX4_copyBelow 29 = .ok (.iload 4, 2) := by decide +kernel
theorem dX4_copyBelow_31 : decode cX4_copyBelow 31 = .ok (.aload_n 2, 1) := by decide +kernel
theorem dX4_copyBelow_32 : decode cX4_copyBelow 32 = .ok (.getfield 9, 3) := by decide +kernel
theorem dX4_copyBelow_35 : decode cX4_copyBelow 35 = .ok (.iload 4, 2) := by decide +kernel
theorem dX4_copyBelow_37 : decode cX4_copyBelow 37 = .ok (.laload, 1) := by decide +kernel
theorem dX4_copyBelow_38 : decode cX4_copyBelow 38 = .ok (.lastore, 1) := by decide +kernel
theorem dX4_copyBelow_39 : decode cX4_copyBelow 39 = .ok (.iinc 4 1, 3) := by decide +kernel
theorem dX4_copyBelow_42 : decode cX4_copyBelow 42 = .ok (.goto (-23), 3) := by decide +kernel
theorem dX4_copyBelow_45 : decode cX4_copyBelow 45 = .ok (.aload_n 0, 1) := by decide +kernel
theorem dX4_copyBelow_46 : decode cX4_copyBelow 46 = .ok (.iload_n 1, 1) := by decide +kernel
theorem dX4_copyBelow_47 : decode cX4_copyBelow 47 = .ok (.invokevirtual 27, 3) := by decide +kernel
theorem dX4_copyBelow_50 : decode cX4_copyBelow 50 = .ok (.return_, 1) := by decide +kernel
set_option maxRecDepth 20000 in
theorem ggX4_filledBelow_X4_isNode : GoodIn wsX4_filledBelow wsX4_isNode := goodIn_r _ [5] (by decide +kernel) (by decide +kernel)
set_option maxRecDepth 20000 in
theorem gX4_filledBelow_X4_isNode : GoodIn wsX4_filledBelow (va_wsS RX4 24 yX4_isNode wsX4_isNode) := goodIn_app (goodIn_of _ (by decide +kernel)) ggX4_filledBelow_X4_isNode
set_option maxRecDepth 20000 in
theorem ggX4_filledBelow_X4_lastPath : GoodIn wsX4_filledBelow wsX4_lastPath := goodIn_r _ [8] (by decide +kernel) (by decide +kernel)
set_option maxRecDepth 20000 in
theorem gX4_filledBelow_X4_lastPath : GoodIn wsX4_filledBelow (va_wsS RX4 31 yX4_lastPath wsX4_lastPath) := goodIn_app (goodIn_of _ (by decide +kernel)) ggX4_filledBelow_X4_lastPath
set_option maxRecDepth 20000 in
theorem ggX4_filledBelow_X4_firstPath : GoodIn wsX4_filledBelow wsX4_firstPath := goodIn_r _ [11] (by decide +kernel) (by decide +kernel)
set_option maxRecDepth 20000 in
theorem gX4_filledBelow_X4_firstPath : GoodIn wsX4_filledBelow (va_wsS RX4 35 yX4_firstPath wsX4_firstPath) := goodIn_app (goodIn_of _ (by decide +kernel)) ggX4_filledBelow_X4_firstPath
theorem dX4_filledBelow_0 : decode cX4_filledBelow 0 = .ok (.iload_n 1, 1) := by decide +kernel
theorem dX4_filledBelow_1 : decode cX4_filledBelow 1 = .ok (.invokestatic 24, 3) := by decide +kernel
theorem dX4_filledBelow_4 : decode cX4_filledBelow 4 = .ok (.ifCond .ne 5, 3) := by decide +kernel
theorem dX4_filledBelow_7 : decode cX4_filledBelow 7 = .ok (.iconst 0, 1) := by decide +kernel
theorem dX4_filledBelow_8 : decode cX4_filledBelow 8 = .ok (.ireturn, 1) := by decide +kernel
theorem dX4_filledBelow_9 : decode cX4_filledBelow 9 = .ok (.iconst 0, 1) := by decide +kernel
theorem dX4_filledBelow_10 : decode cX4_filledBelow 10 = .ok (.istore_n 2, 1) := by decide +kernel
theorem dX4_filledBelow_11 : decode cX4_filledBelow 11 = .ok (.iload_n 1, 1) := by decide +kernel
theorem dX4_filledBelow_12 : decode cX4_filledBelow 12 = .ok (.invokestatic 31, 3) := by decide +kernel
theorem dX4_filledBelow_15 : decode cX4_filledBelow 15 = .ok (.istore_n 3, 1) := by decide +kernel
theorem dX4_filledBelow_16 : decode cX4_filledBelow 16 = .ok (.iload_n 1, 1) := by decide +kernel
theorem dX4_filledBelow_17 : decode cX4_filledBelow 17 = .ok (.invokestatic 35, 3) := by decide +kernel
theorem dX4_filledBelow_20 : decode cX4_filledBelow 20 = .ok (.istore 4, 2) := by decide +kernel
theorem dX4_filledBelow_22 : decode cX4_filledBelow 22 = .ok (.iload 4, 2) := by decide +kernel
theorem dX4_filledBelow_24 : decode cX4_filledBelow 24 = .ok (.iload_n 3, 1) := by decide +kernel
theorem dX4_filledBelow_25 : decode cX4_filledBelow 25 = .ok (.if_icmp .gt 24, 3) := by decide +kernel
theorem dX4_filledBelow_28 : decode cX4_filledBelow 28 = .ok (.aload_n 0, 1) := by decide +kernel
theorem dX4_filledBelow_29 : decode cX4_filledBelow 29 = .ok (.getfield 9, 3) := by decide +kernel
theorem dX4_filledBelow_32 : decode cX4_filledBelow 32 = .ok (.iload 4, 2) := by decide +kernel
theorem dX4_filledBelow_34 : decode cX4_filledBelow 34 = .ok (.laload, 1) := by decide +kernel
theorem dX4_filledBelow_35 : decode cX4_filledBelow 35 = .ok (.lconst 0, 1) := by decide +kernel
theorem dX4_filledBelow_36 : decode cX4_filledBelow 36 = .ok (.lcmp, 1) := by decide +kernel
theorem dX4_filledBelow_37 : decode cX4_filledBelow 37 = .ok (.ifCond .eq 6, 3) := by decide +kernel
theorem dX4_filledBelow_40 : decode cX4_filledBelow 40 = .ok (.iinc 2 1, 3) := by decide +kernel
theorem dX4_filledBelow_43 : decode cX4_filledBelow 43 = .ok (.iinc 4 1, 3) := by decide +kernel
theorem dX4_filledBelow_46 : decode cX4_filledBelow 46 = .ok (.goto (-24), 3) := by decide +kernel
theorem dX4_filledBelow_49 : decode cX4_filledBelow 49 = .ok (.iload_n 2, 1) := by decide +kernel
theorem dX4_filledBelow_50 : decode cX4_filledBelow 50 = .ok (.ireturn, 1) := by decide +kernel
set_option maxRecDepth 20000 in
theorem ggX4_firstFilled_X4_isNode : GoodIn wsX4_firstFilled wsX4_isNode := goodIn_r _ [5] (by decide +kernel) (by decide +kernel)
set_option maxRecDepth 20000 in
theorem gX4_firstFilled_X4_isNode : GoodIn wsX4_firstFilled (va_wsS RX4 24 yX4_isNode wsX4_isNode) := goodIn_app (goodIn_of _ (by decide +kernel)) ggX4_firstFilled_X4_isNode
set_option maxRecDepth 20000 in
theorem ggX4_firstFilled_X4_lastPath : GoodIn wsX4_firstFilled wsX4_lastPath := goodIn_r _ [8] (by decide +kernel) (by decide +kernel)
set_option maxRecDepth 20000 in
theorem gX4_firstFilled_X4_lastPath : GoodIn wsX4_firstFilled (va_wsS RX4 31 yX4_lastPath wsX4_lastPath) := goodIn_app (goodIn_of _ (by decide +kernel)) ggX4_firstFilled_X4_lastPath
set_option maxRecDepth 20000 in
theorem ggX4_firstFilled_X4_firstPath : GoodIn wsX4_firstFilled wsX4_firstPath := goodIn_r _ [11] (by decide +kernel) (by decide +kernel)
set_option maxRecDepth 20000 in
theorem gX4_firstFilled_X4_firstPath : GoodIn wsX4_firstFilled (va_wsS RX4 35 yX4_firstPath wsX4_firstPath) := goodIn_app (goodIn_of _ (by decide +kernel)) ggX4_firstFilled_X4_firstPath
theorem dX4_firstFilled_0 : decode cX4_firstFilled 0 = .ok (.iload_n 1, 1) := by decide +kernel
theorem dX4_firstFilled_1 : decode cX4_firstFilled 1 = .ok (.invokestatic 24, 3) := by decide +kernel
theorem dX4_firstFilled_4 : decode cX4_firstFilled 4 = .ok (.ifCond .ne 5, 3) := by decide +kernel
theorem dX4_firstFilled_7 : decode cX4_firstFilled 7 = .ok (.iconst (-1), 1) := by decide +kernel
theorem dX4_firstFilled_8 : decode cX4_firstFilled 8 = .ok (.ireturn, 1) := by decide +kernel
theorem dX4_firstFilled_9 : decode cX4_firstFilled 9 = .ok (.iload_n 1, 1) := by decide +kernel
theorem dX4_firstFilled_10 : decode cX4_firstFilled 10 = .ok (.invokestatic 31, 3) := by decide +kernel
theorem dX4_firstFilled_13 : decode cX4_firstFilled 13 = .ok (.istore_n 2, 1) := by decide +kernel
theorem dX4_firstFilled_14 : decode cX4_firstFilled 14 = .ok (.iload_n 1, 1) := by decide +kernel
theorem dX4_firstFilled_15 : decode cX4_firstFilled 15 = .ok (.invokestatic 35, 3) := by decide +kernel
theorem dX4_firstFilled_18 : decode cX4_firstFilled 18 = .ok (.istore_n 3, 1) := by decide +kernel
theorem dX4_firstFilled_19 : decode cX4_firstFilled 19 = .ok (.iload_n 3, 1) := by decide +kernel
theorem dX4_firstFilled_20 : decode cX4_firstFilled 20 = .ok (.iload_n 2, 1) := by decide +kernel
theorem dX4_firstFilled_21 : decode cX4_firstFilled 21 = .ok (.if_icmp .gt 22, 3) := by decide +kernel
theorem dX4_firstFilled_24 : decode cX4_firstFilled 24 = .ok (.aload_n 0, 1) := by decide +kernel
theorem dX4_firstFilled_25 : decode cX4_firstFilled 25 = .ok (.getfield 9, 3) := by decide +kernel
theorem dX4_firstFilled_28 : decode cX4_firstFilled 28 = .ok (.iload_n 3, 1) := by decide +kernel
theorem dX4_firstFilled_29 : decode cX4_firstFilled 29 = .ok (.laload, 1) := by decide +kernel
theorem dX4_firstFilled_30 : decode cX4_firstFilled 30 = .ok (.lconst 0, 1) := by decide +kernel
theorem dX4_firstFilled_31 : decode cX4_firstFilled 31 = .ok (.lcmp, 1) := by decide +kernel
theorem dX4_firstFilled_32 : decode cX4_firstFilled 32 = .ok (.ifCond .eq 5, 3) := by decide +kernel
theorem dX4_firstFilled_35 : decode cX4_firstFilled 35 = .ok (.iload_n 3, 1) := by decide +kernel
theorem dX4_firstFilled_36 : decode cX4_firstFilled 36 = .ok (.ireturn, 1) := by decide +kernel
theorem dX4_firstFilled_37 : decode cX4_firstFilled 37 = .ok (.iinc 3 1, 3) := by decide +kernel
theorem dX4_firstFilled_40 : decode cX4_firstFilled 40 = .ok (.goto (-21), 3) := by decide +kernel
theorem dX4_firstFilled_43 : decode cX4_firstFilled 43 = .ok (.iconst (-1), 1) := by decide +kernel
theorem dX4_firstFilled_44 : decode cX4_firstFilled 44 = .ok (.ireturn, 1) := by decide +kernel
set_option maxRecDepth 20000 in
theorem ggX4_lastFilled_X4_isNode : GoodIn wsX4_lastFilled wsX4_isNode := goodIn_r _ [5] (by decide +kernel) (by decide +kernel)
set_option maxRecDepth 20000 in
theorem gX4_lastFilled_X4_isNode : GoodIn wsX4_lastFilled (va_wsS RX4 24 yX4_isNode wsX4_isNode) := goodIn_app (goodIn_of _ (by decide +kernel)) ggX4_lastFilled_X4_isNode
set_option maxRecDepth 20000 in
theorem ggX4_lastFilled_X4_firstPath : GoodIn wsX4_lastFilled wsX4_firstPath := goodIn_r _ [8] (by decide +kernel) (by decide +kernel)
set_option maxRecDepth 20000 in
theorem gX4_lastFilled_X4_firstPath : GoodIn wsX4_lastFilled (va_wsS RX4 35 yX4_firstPath wsX4_firstPath) := goodIn_app (goodIn_of _ (by decide +kernel)) ggX4_lastFilled_X4_firstPath
set_option maxRecDepth 20000 in
theorem ggX4_lastFilled_X4_lastPath : GoodIn wsX4_lastFilled wsX4_lastPath := goodIn_r _ [11] (by decide +kernel) (by decide +kernel)
set_option maxRecDepth 20000 in
theorem gX4_lastFilled_X4_lastPath : GoodIn wsX4_lastFilled (va_wsS RX4 31 yX4_lastPath wsX4_lastPath) := goodIn_app (goodIn_of _ (by decide +kernel)) ggX4_lastFilled_X4_lastPath
theorem dX4_lastFilled_0 : decode cX4_lastFilled 0 = .ok (.iload_n 1, 1) := by decide +kernel
theorem dX4_lastFilled_1 : decode cX4_lastFilled 1 = .ok (.invokestatic 24, 3) := by decide +kernel
theorem dX4_lastFilled_4 : decode cX4_lastFilled 4 = .ok (.ifCond .ne 5, 3) := by decide +kernel
theorem dX4_lastFilled_7 : decode cX4_lastFilled 7 = .ok (.iconst (-1), 1) := by decide +kernel
theorem dX4_lastFilled_8 : decode cX4_lastFilled 8 = .ok (.ireturn, 1) := by decide +kernel
theorem dX4_lastFilled_9 : decode cX4_lastFilled 9 = .ok (.iload_n 1, 1) := by decide +kernel
theorem dX4_lastFilled_10 : decode cX4_lastFilled 10 = .ok (.invokestatic 35, 3) := by decide +kernel
theorem dX4_lastFilled_13 : decode cX4_lastFilled 13 = .ok (.istore_n 2, 1) := by decide +kernel
theorem dX4_lastFilled_14 : decode cX4_lastFilled 14 = .ok (.iload_n 1, 1) := by decide +kernel
theorem dX4_lastFilled_15 : decode cX4_lastFilled 15 = .ok (.invokestatic 31, 3) := by decide +kernel
theorem dX4_lastFilled_18 : decode cX4_lastFilled 18 = .ok (.istore_n 3, 1) := by decide +kernel
theorem dX4_lastFilled_19 : decode cX4_lastFilled 19 = .ok (.iload_n 3, 1) := by decide +kernel
theorem dX4_lastFilled_20 : decode cX4_lastFilled 20 = .ok (.iload_n 2, 1) := by decide +kernel
theorem dX4_lastFilled_21 : decode cX4_lastFilled 21 = .ok (.if_icmp .lt 22, 3) := by decide +kernel
theorem dX4_lastFilled_24 : decode cX4_lastFilled 24 = .ok (.aload_n 0, 1) := by decide +kernel
theorem dX4_lastFilled_25 : decode cX4_lastFilled 25 = .ok (.getfield 9, 3) := by decide +kernel
theorem dX4_lastFilled_28 : decode cX4_lastFilled 28 = .ok (.iload_n 3, 1) := by decide +kernel
theorem dX4_lastFilled_29 : decode cX4_lastFilled 29 = .ok (.laload, 1) := by decide +kernel
theorem dX4_lastFilled_30 : decode cX4_lastFilled 30 = .ok (.lconst 0, 1) := by decide +kernel
theorem dX4_lastFilled_31 : decode cX4_lastFilled 31 = .ok (.lcmp, 1) := by decide +kernel
theorem dX4_lastFilled_32 : decode cX4_lastFilled 32 = .ok (.ifCond .eq 5, 3) := by decide +kernel
theorem dX4_lastFilled_35 : decode cX4_lastFilled 35 = .ok (.iload_n 3, 1) := by decide +kernel
theorem dX4_lastFilled_36 : decode cX4_lastFilled 36 = .ok (.ireturn, 1) := by decide +kernel
theorem dX4_lastFilled_37 : decode cX4_lastFilled 37 = .ok (.iinc 3 (-1), 3) := by decide +kernel
theorem dX4_lastFilled_40 : decode cX4_lastFilled 40 = .ok (.goto (-21), 3) := by decide +kernel
theorem dX4_lastFilled_43 : decode cX4_lastFilled 43 = .ok (.iconst (-1), 1) := by decide +kernel
theorem dX4_lastFilled_44 : decode cX4_lastFilled 44 = .ok (.ireturn, 1) := by decide +kernel
set_option maxRecDepth 20000 in
theorem ggX4_renew_X4_isNode : GoodIn wsX4_renew wsX4_isNode := goodIn_r _ [6] (by decide +kernel) (by decide +kernel)
set_option maxRecDepth 20000 in
theorem gX4_renew_X4_isNode : GoodIn wsX4_renew (va_wsS RX4 24 yX4_isNode wsX4_isNode) := goodIn_app (goodIn_of _ (by decide +kernel)) ggX4_renew_X4_isNode
set_option maxRecDepth 20000 in
theorem ggX4_renew_X4_firstPath : GoodIn wsX4_renew wsX4_firstPath := goodIn_r _ [9] (by decide +kernel) (by decide +kernel)
set_option maxRecDepth 20000 in
theorem gX4_renew_X4_firstPath : GoodIn wsX4_renew (va_wsS RX4 35 yX4_firstPath wsX4_firstPath) := goodIn_app (goodIn_of _ (by decide +kernel)) ggX4_renew_X4_firstPath
set_option maxRecDepth 20000 in
theorem ggX4_renew_X4_lastPath : GoodIn wsX4_renew wsX4_lastPath := goodIn_r _ [12] (by decide +kernel) (by decide +kernel)
set_option maxRecDepth 20000 in
theorem gX4_renew_X4_lastPath : GoodIn wsX4_renew (va_wsS RX4 31 yX4_lastPath wsX4_lastPath) := goodIn_app (goodIn_of _ (by decide +kernel)) ggX4_renew_X4_lastPath
set_option maxRecDepth 20000 in
theorem ggX4_renew_X4_mix : GoodIn wsX4_renew wsX4_mix := goodIn_r _ [15, 16, 17] (by decide +kernel) (by decide +kernel)
set_option maxRecDepth 20000 in
theorem gX4_renew_X4_mix : GoodIn wsX4_renew (va_wsS RX4 38 yX4_mix wsX4_mix) := goodIn_app (goodIn_of _ (by decide +kernel)) ggX4_renew_X4_mix
theorem dX4_renew_0 : decode cX4_renew 0 = .ok (.iload_n 1, 1) := by decide +kernel
theorem dX4_renew_1 : decode cX4_renew 1 = .ok (.invokestatic 24, 3) := by decide +kernel
theorem dX4_renew_4 : decode cX4_renew 4 = .ok (.ifCond .ne 4, 3) := by decide +kernel
theorem dX4_renew_7 : decode cX4_renew 7 = .ok (.return_, 1) := by decide +kernel
theorem dX4_renew_8 : decode cX4_renew 8 = .ok (.iload_n 1, 1) := by decide +kernel
theorem dX4_renew_9 : decode cX4_renew 9 = .ok (.invokestatic 35, 3) := by decide +kernel
theorem dX4_renew_12 : decode cX4_renew 12 = .ok (.istore_n 2, 1) := by decide +kernel
theorem dX4_renew_13 : decode cX4_renew 13 = .ok (.iload_n 1, 1) := by decide +kernel
theorem dX4_renew_14 : decode cX4_renew 14 = .ok (.invokestatic 31, 3) := by decide +kernel
theorem dX4_renew_17 : decode cX4_renew 17 = .ok (.istore_n 3, 1) := by decide +kernel
theorem dX4_renew_18 : decode cX4_renew 18 = .ok (.iload_n 2, 1) := by decide +kernel
theorem dX4_renew_19 : decode cX4_renew 19 = .ok (.istore 4, 2) := by decide +kernel
theorem dX4_renew_21 : decode cX4_renew 21 = .ok (.iload 4, 2) := by decide +kernel
theorem dX4_renew_23 : decode cX4_renew 23 = .ok (.iload_n 3, 1) := by decide +kernel
theorem dX4_renew_24 : decode cX4_renew 24 = .ok (.if_icmp .gt 50, 3) := by decide +kernel
theorem dX4_renew_27 : decode cX4_renew 27 = .ok (.aload_n 0, 1) := by decide +kernel
theorem dX4_renew_28 : decode cX4_renew 28 = .ok (.getfield 13, 3) := by decide +kernel
theorem dX4_renew_31 : decode cX4_renew 31 = .ok (.bipush 64, 2) := by decide +kernel
theorem dX4_renew_33 : decode cX4_renew 33 = .ok (.iload 4, 2) := by decide +kernel
theorem dX4_renew_35 : decode cX4_renew 35 = .ok (.iadd, 1) := by decide +kernel
theorem dX4_renew_36 : decode cX4_renew 36 = .ok (.aload_n 0, 1) := by decide +kernel
theorem dX4_renew_37 : decode cX4_renew 37 = .ok (.getfield 9, 3) := by decide +kernel
theorem dX4_renew_40 : decode cX4_renew 40 = .ok (.iload 4, 2) := by decide +kernel
theorem dX4_renew_42 : decode cX4_renew 42 = .ok (.laload, 1) := by decide +kernel
theorem dX4_renew_43 : decode cX4_renew 43 = .ok (.lconst 0, 1) := by decide +kernel
theorem dX4_renew_44 : decode cX4_renew 44 = .ok (.lcmp, 1) := by decide +kernel
theorem dX4_renew_45 : decode cX4_renew 45 = .ok (.ifCond .ne 7, 3) := by decide +kernel
theorem dX4_renew_48 : decode cX4_renew 48 = .ok (.lconst 0, 1) := by decide +kernel
theorem dX4_renew_49 : decode cX4_renew 49 = .ok (.goto 18, 3) := by decide +kernel
theorem dX4_renew_52 : decode cX4_renew 52 = .ok (.iload 4, 2) := by decide +kernel
theorem dX4_renew_54 : decode cX4_renew 54 = .ok (.i2l, 1) := by decide +kernel
theorem dX4_renew_55 : decode cX4_renew 55 = .ok (.lconst 1, 1) := by decide +kernel
theorem dX4_renew_56 : decode cX4_renew 56 = .ok (.ladd, 1) := by decide +kernel
theorem dX4_renew_57 : decode cX4_renew 57 = .ok (.aload_n 0, 1) := by decide +kernel
theorem dX4_renew_58 : decode cX4_renew 58 = .ok (.getfield 9, 3) := by decide +kernel
theorem dX4_renew_61 : decode cX4_renew 61 = .ok (.iload 4, 2) := by decide +kernel
theorem dX4_renew_63 : decode cX4_renew 63 = .ok (.laload, 1) := by decide +kernel
theorem dX4_renew_64 : decode cX4_renew 64 = .ok (.invokestatic 38, 3) := by decide +kernel
theorem dX4_renew_67 : decode cX4_renew 67 = .ok (.lastore, 1) := by decide +kernel
theorem dX4_renew_68 : decode cX4_renew 68 = .ok (.iinc 4 1, 3) := by decide +kernel
theorem dX4_renew_71 : decode cX4_renew 71 = .ok (.goto (-50), 3) := by decide +kernel
theorem dX4_renew_74 : decode cX4_renew 74 = .ok (.bipush 64, 2) := by decide +kernel
theorem dX4_renew_76 : decode cX4_renew 76 = .ok (.iload_n 2, 1) := by decide +kernel
theorem dX4_renew_77 : decode cX4_renew 77 = .ok (.iadd, 1) := by decide +kernel
theorem dX4_renew_78 : decode cX4_renew 78 = .ok (.istore 4, 2) := by decide +kernel
theorem dX4_renew_80 : decode cX4_renew 80 = .ok (.bipush 64, 2) := by decide +kernel
theorem dX4_renew_82 : decode cX4_renew 82 = .ok (.iload_n 3, 1) := by decide +kernel
theorem dX4_renew_83 : decode cX4_renew 83 = .ok (.iadd, 1) := by decide +kernel
theorem dX4_renew_84 : decode cX4_renew 84 = .ok (.istore 5, 2) := by decide +kernel
theorem dX4_renew_86 : decode cX4_renew 86 = .ok (.iconst 0, 1) := by decide +kernel
theorem dX4_renew_87 : decode cX4_renew 87 = .ok (.istore 6, 2) := by decide +kernel
theorem dX4_renew_89 : decode cX4_renew 89 = .ok (.iload 6, 2) := by decide +kernel
theorem dX4_renew_91 : decode cX4_renew 91 = .ok (.bipush 6, 2) := by decide +kernel
theorem dX4_renew_93 : decode cX4_renew 93 = .ok (.if_icmp .ge 68, 3) := by decide +kernel
theorem dX4_renew_96 : decode cX4_renew 96 = .ok (.iload 4, 2) := by decide +kernel
theorem dX4_renew_98 : decode cX4_renew 98 = .ok (.iconst 2, 1) := by decide +kernel
theorem dX4_renew_99 : decode cX4_renew 99 = .ok (.idiv, 1) := by decide +kernel
theorem dX4_renew_100 : decode cX4_renew 100 = .ok (.istore 4, 2) := by decide +kernel
theorem dX4_renew_102 : decode cX4_renew 102 = .ok (.iload 5, 2) := by decide +kernel
theorem dX4_renew_104 : decode cX4_renew 104 = .ok (.iconst 2, 1) := by decide +kernel
theorem dX4_renew_105 : decode cX4_renew 105 = .ok (.idiv, 1) := by decide +kernel
theorem dX4_renew_106 : decode cX4_renew 106 = .ok (.istore 5, 2) := by decide +kernel
theorem dX4_renew_108 : decode cX4_renew 108 = .ok (.iload 4, 2) := by decide +kernel
theorem dX4_renew_110 : decode cX4_renew 110 = .ok (.istore 7, 2) := by decide +kernel
theorem dX4_renew_112 : decode cX4_renew 112 = .ok (.iload 7, 2) := by decide +kernel
theorem dX4_renew_114 : decode cX4_renew 114 = .ok (.iload 5, 2) := by decide +kernel
theorem dX4_renew_116 : decode cX4_renew 116 = .ok (.if_icmp .gt 39, 3) := by decide +kernel
theorem dX4_renew_119 : decode cX4_renew 119 = .ok (.aload_n 0, 1) := by decide +kernel
theorem dX4_renew_120 : decode cX4_renew 120 = .ok (.getfield 13, 3) := by decide +kernel
theorem dX4_renew_123 : decode cX4_renew 123 = .ok (.iload 7, 2) := by decide +kernel
theorem dX4_renew_125 : decode cX4_renew 125 = .ok (.aload_n 0, 1) := by decide +kernel
theorem dX4_renew_126 : decode cX4_renew 126 = .ok (.getfield 13, 3) := by decide +kernel
theorem dX4_renew_129 : decode cX4_renew 129 = .ok (.iconst 2, 1) := by decide +kernel
theorem dX4_renew_130 : decode cX4_renew 130 = .ok (.iload 7, 2) := by decide +kernel
theorem dX4_renew_132 : decode cX4_renew 132 = .ok (.imul, 1) := by decide +kernel
theorem dX4_renew_133 : decode cX4_renew 133 = .ok (.laload, 1) := by decide +kernel
theorem dX4_renew_134 : decode cX4_renew 134 = .ok (.aload_n 0, 1) := by decide +kernel
theorem dX4_renew_135 : decode cX4_renew 135 = .ok (.getfield 13, 3) := by decide +kernel
theorem dX4_renew_138 : decode cX4_renew 138 = .ok (.iconst 2, 1) := by decide +kernel
theorem dX4_renew_139 : decode cX4_renew 139 = .ok (.iload 7, 2) := by decide +kernel
theorem dX4_renew_141 : decode cX4_renew 141 = .ok (.imul, 1) := by decide +kernel
theorem dX4_renew_142 : decode cX4_renew 142 = .ok (.iconst 1, 1) := by decide +kernel
theorem dX4_renew_143 : decode cX4_renew 143 = .ok (.iadd, 1) := by decide +kernel
theorem dX4_renew_144 : decode cX4_renew 144 = .ok (.laload, 1) := by decide +kernel
theorem dX4_renew_145 : decode cX4_renew 145 = .ok (.invokestatic 38, 3) := by decide +kernel
theorem dX4_renew_148 : decode cX4_renew 148 = .ok (.lastore, 1) := by decide +kernel
theorem dX4_renew_149 : decode cX4_renew 149 = .ok (.iinc 7 1, 3) := by decide +kernel
theorem dX4_renew_152 : decode cX4_renew 152 = .ok (.goto (-40), 3) := by decide +kernel
theorem dX4_renew_155 : decode cX4_renew 155 = .ok (.iinc 6 1, 3) := by decide +kernel
theorem dX4_renew_158 : decode cX4_renew 158 = .ok (.goto (-69), 3) := by decide +kernel
theorem dX4_renew_161 : decode cX4_renew 161 = .ok (.return_, 1) := by decide +kernel
set_option maxRecDepth 20000 in
theorem ggX5_init_X3_init : GoodIn wsX5_init wsX3_init := goodIn_r _ [26, 27, 2, 3, 28, 29, 30, 31, 32, 72, 73, 74] (by decide +kernel) (by decide +kernel)
set_option maxRecDepth 20000 in
theorem gX5_init_X3_init_n9 : GoodIn wsX5_init (wsX3_init) := ggX5_init_X3_init
set_option maxRecDepth 20000 in
theorem ggX5_init_X0_init : GoodIn wsX5_init wsX0_init := goodIn_r _ [34, 35, 2, 3, 28, 36, 37, 38, 39, 40, 41, 42, 43, 81, 82, 83, 84, 85, 86, 87, 88] (by decide +kernel) (by decide +kernel)
set_option maxRecDepth 20000 in
theorem gX5_init_X0_init_n18 : GoodIn wsX5_init (wsX0_init) := ggX5_init_X0_init
set_option maxRecDepth 20000 in
theorem ggX5_init_X1_init : GoodIn wsX5_init wsX1_init := goodIn_r _ [45, 46, 2, 3, 47, 21, 22, 48, 49, 50, 51, 52, 30, 53, 28, 54, 55, 56, 57, 58, 59, 60, 61, 103, 104, 89, 90, 91, 92, 93, 94, 95, 96] (by decide +kernel) (by decide +kernel)
set_option maxRecDepth 20000 in
theorem gX5_init_X1_init_n25 : GoodIn wsX5_init (wsX1_init) := ggX5_init_X1_init
set_option maxRecDepth 20000 in
theorem ggX5_init_X2_init : GoodIn wsX5_init wsX2_init := goodIn_r _ [63, 64, 2, 3, 65, 21, 22, 66, 67, 68, 69, 70, 71, 57, 58, 59, 30, 60, 61, 103, 104, 97, 98, 99, 100, 101, 102] (by decide +kernel) (by decide +kernel)
set_option maxRecDepth 20000 in
theorem gX5_init_X2_init_n32 : GoodIn wsX5_init (wsX2_init) := ggX5_init_X2_init
set_option maxRecDepth 20000 in
theorem ggX5_init_X4_init : GoodIn wsX5_init wsX4_init := goodIn_r _ [58, 59, 2, 3, 30, 60, 61, 103, 104] (by decide +kernel) (by decide +kernel)
set_option maxRecDepth 20000 in
theorem gX5_init_X4_init_n39 : GoodIn wsX5_init (wsX4_init) := ggX5_init_X4_init
theorem dX5_init_0 : decode cX5_init 0 = .ok (.aload_n 0, 1) := by decide +kernel
theorem dX5_init_1 : decode cX5_init 1 = .ok (.invokespecial 1, 3) := by decide +kernel
theorem dX5_init_4 : decode cX5_init 4 = .ok (.aload_n 0, 1) := by decide +kernel
theorem dX5_init_5 : decode cX5_init 5 = .ok (.new 7, 3) := by decide +kernel
theorem dX5_init_8 : decode cX5_init 8 = .ok (.dup, 1) := by decide +kernel
theorem dX5_init_9 : decode cX5_init 9 = .ok (.invokespecial 9, 3) := by decide +kernel
theorem dX5_init_12 : decode cX5_init 12 = .ok (.putfield 10, 3) := by decide +kernel
theorem dX5_init_15 : decode cX5_init 15 = .ok (.aload_n 0, 1) := by decide +kernel
theorem dX5_init_16 : decode cX5_init 16 = .ok (.new 16, 3) := by decide +kernel
theorem dX5_init_19 : decode cX5_init 19 = .ok (.dup, 1) := by decide +kernel
theorem dX5_init_20 : decode cX5_init 20 = .ok (.invokespecial 18, 3) := by decide +kernel
theorem dX5_init_23 : decode cX5_init 23 = .ok (.putfield 19, 3) := by decide +kernel
theorem dX5_init_26 : decode cX5_init 26 = .ok (.aload_n 0, 1) := by decide +kernel
theorem dX5_init_27 : decode cX5_init 27 = .ok (.new 23, 3) := by decide +kernel
theorem dX5_init_30 : decode cX5_init 30 = .ok (.dup, 1) := by decide +kernel
theorem dX5_init_31 : decode cX5_init 31 = .ok (.invokespecial 25, 3) := by decide +kernel
theorem dX5_init_34 : decode cX5_init 34 = .ok (.putfield 26, 3) := by decide +kernel
theorem dX5_init_37 : decode cX5_init 37 = .ok (.aload_n 0, 1) := by decide +kernel
theorem dX5_init_38 : decode cX5_init 38 = .ok (.new 30, 3) := by decide +kernel
theorem dX5_init_41 : decode cX5_init 41 = .ok (.dup, 1) := by decide +kernel
theorem dX5_init_42 : decode cX5_init 42 = .ok (.invokespecial 32, 3) := by decide +kernel
theorem dX5_init_45 : decode cX5_init 45 = .ok (.putfield 33, 3) := by decide +kernel
theorem dX5_init_48 : decode cX5_init 48 = .ok (.aload_n 0, 1) := by decide +kernel
theorem dX5_init_49 : decode cX5_init 49 = .ok (.new 37, 3) := by decide +kernel
theorem dX5_init_52 : decode cX5_init 52 = .ok (.dup, 1) := by decide +kernel
theorem dX5_init_53 : decode cX5_init 53 = .ok (.invokespecial 39, 3) := by decide +kernel
theorem dX5_init_56 : decode cX5_init 56 = .ok (.putfield 40, 3) := by decide +kernel
theorem dX5_init_59 : decode cX5_init 59 = .ok (.aload_n 0, 1) := by decide +kernel
theorem dX5_init_60 : decode cX5_init 60 = .ok (.iconst 0, 1) := by decide +kernel
theorem dX5_init_61 : decode cX5_init 61 = .ok (.putfield 44, 3) := by decide +kernel
theorem dX5_init_64 : decode cX5_init 64 = .ok (.return_, 1) := by decide +kernel
set_option maxRecDepth 20000 in
theorem ggX5_leaf_X4_isPath : GoodIn wsX5_leaf wsX4_isPath := goodIn_r _ [6] (by decide +kernel) (by decide +kernel)
set_option maxRecDepth 20000 in
theorem gX5_leaf_X4_isPath : GoodIn wsX5_leaf (va_wsS RX5 48 yX4_isPath wsX4_isPath) := goodIn_app (goodIn_of _ (by decide +kernel)) ggX5_leaf_X4_isPath
set_option maxRecDepth 20000 in
theorem ggX5_leaf_X3_append : GoodIn wsX5_leaf wsX3_append := goodIn_r _ [11, 12, 13, 14, 21, 22, 23] (by decide +kernel) (by decide +kernel)
set_option maxRecDepth 20000 in
theorem gX5_leaf_X3_append : GoodIn wsX5_leaf (wsV RX5 52 RX3 yX3_append wsX3_append) := goodIn_app (goodIn_of _ (by decide +kernel)) ggX5_leaf_X3_append
theorem dX5_leaf_0 : decode cX5_leaf 0 = .ok (.iload_n 1, 1) := by decide +kernel
theorem dX5_leaf_1 : decode cX5_leaf 1 = .ok (.invokestatic 48, 3) := by decide +kernel
theorem dX5_leaf_4 : decode cX5_leaf 4 = .ok (.ifCond .ne 5, 3) := by decide +kernel
theorem dX5_leaf_7 : decode cX5_leaf 7 = .ok (.iconst (-1), 1) := by decide +kernel
theorem dX5_leaf_8 : decode cX5_leaf 8 = .ok (.ireturn, 1) := by decide +kernel
theorem dX5_leaf_9 : decode cX5_leaf 9 = .ok (.aload_n 0, 1) := by decide +kernel
theorem dX5_leaf_10 : decode cX5_leaf 10 = .ok (.getfield 10, 3) := by decide +kernel
theorem dX5_leaf_13 : decode cX5_leaf 13 = .ok (.iload_n 1, 1) := by decide +kernel
theorem dX5_leaf_14 : decode cX5_leaf 14 = .ok (.lload_n 2, 1) := by decide +kernel
theorem dX5_leaf_15 : decode cX5_leaf 15 = .ok (.invokevirtual 52, 3) := by decide +kernel
theorem dX5_leaf_18 : decode cX5_leaf 18 = .ok (.ifCond .eq 13, 3) := by decide +kernel
theorem dX5_leaf_21 : decode cX5_leaf 21 = .ok (.aload_n 0, 1) := by decide +kernel
theorem dX5_leaf_22 : decode cX5_leaf 22 = .ok (.getfield 10, 3) := by decide +kernel
theorem dX5_leaf_25 : decode cX5_leaf 25 = .ok (.getfield 56, 3) := by decide +kernel
theorem dX5_leaf_28 : decode cX5_leaf 28 = .ok (.goto 5, 3) := by decide +kernel
theorem dX5_leaf_31 : decode cX5_leaf 31 = .ok (.bipush (-2), 2) := by decide +kernel
theorem dX5_leaf_33 : decode cX5_leaf 33 = .ok (.ireturn, 1) := by decide +kernel
set_option maxRecDepth 20000 in
theorem ggX5_value_X3_hasHeight : GoodIn wsX5_value wsX3_hasHeight := goodIn_r _ [6, 7, 24, 25, 26] (by decide +kernel) (by decide +kernel)
set_option maxRecDepth 20000 in
theorem gX5_value_X3_hasHeight : GoodIn wsX5_value (wsV RX5 59 RX3 yX3_hasHeight wsX3_hasHeight) := goodIn_app (goodIn_of _ (by decide +kernel)) ggX5_value_X3_hasHeight
set_option maxRecDepth 20000 in
theorem ggX5_value_X3_valueAt : GoodIn wsX5_value wsX3_valueAt := goodIn_r _ [11, 7, 12, 13, 14, 15, 16, 17, 24, 25, 26] (by decide +kernel) (by decide +kernel)
set_option maxRecDepth 20000 in
theorem gX5_value_X3_valueAt : GoodIn wsX5_value (wsV RX5 62 RX3 yX3_valueAt wsX3_valueAt) := goodIn_app (goodIn_of _ (by decide +kernel)) ggX5_value_X3_valueAt
theorem dX5_value_0 : decode cX5_value 0 = .ok (.aload_n 0, 1) := by decide +kernel
theorem dX5_value_1 : decode cX5_value 1 = .ok (.getfield 10, 3) := by decide +kernel
theorem dX5_value_4 : decode cX5_value 4 = .ok (.iload_n 1, 1) := by decide +kernel
theorem dX5_value_5 : decode cX5_value 5 = .ok (.invokevirtual 59, 3) := by decide +kernel
theorem dX5_value_8 : decode cX5_value 8 = .ok (.ifCond .eq 15, 3) := by decide +kernel
theorem dX5_value_11 : decode cX5_value 11 = .ok (.aload_n 0, 1) := by decide +kernel
theorem dX5_value_12 : decode cX5_value 12 = .ok (.getfield 10, 3) := by decide +kernel
theorem dX5_value_15 : decode cX5_value 15 = .ok (.iload_n 1, 1) := by decide +kernel
theorem dX5_value_16 : decode cX5_value 16 = .ok (.iload_n 2, 1) := by decide +kernel
theorem dX5_value_17 : decode cX5_value 17 = .ok (.invokevirtual 62, 3) := by decide +kernel
theorem dX5_value_20 : decode cX5_value 20 = .ok (.goto 4, 3) := by decide +kernel
theorem dX5_value_23 : decode cX5_value 23 = .ok (.lconst 0, 1) := by decide +kernel
theorem dX5_value_24 : decode cX5_value 24 = .ok (.lreturn, 1) := by decide +kernel
set_option maxRecDepth 20000 in
theorem ggX5_digest_X3_hasHeight : GoodIn wsX5_digest wsX3_hasHeight := goodIn_r _ [7, 8, 55, 56, 57] (by decide +kernel) (by decide +kernel)
set_option maxRecDepth 20000 in
theorem gX5_digest_X3_hasHeight : GoodIn wsX5_digest (wsV RX5 59 RX3 yX3_hasHeight wsX3_hasHeight) := goodIn_app (goodIn_of _ (by decide +kernel)) ggX5_digest_X3_hasHeight
set_option maxRecDepth 20000 in
theorem ggX5_digest_X4_isNode : GoodIn wsX5_digest wsX4_isNode := goodIn_r _ [12] (by decide +kernel) (by decide +kernel)
set_option maxRecDepth 20000 in
theorem gX5_digest_X4_isNode : GoodIn wsX5_digest (va_wsS RX5 66 yX4_isNode wsX4_isNode) := goodIn_app (goodIn_of _ (by decide +kernel)) ggX5_digest_X4_isNode
set_option maxRecDepth 20000 in
theorem ggX5_digest_X3_copyState : GoodIn wsX5_digest wsX3_copyState := goodIn_r _ [16, 17, 8, 18, 19, 20, 21, 22, 23, 24, 25, 11, 26, 27, 28, 29, 30, 31, 32, 33, 10, 12, 34, 35, 36, 37, 38, 39, 40, 41, 42, 43, 44, 58, 59, 55, 56, 57] (by decide +kernel) (by decide +kernel)
set_option maxRecDepth 20000 in
theorem gX5_digest_X3_copyState : GoodIn wsX5_digest (wsV RX5 69 RX3 yX3_copyState wsX3_copyState) := goodIn_app (goodIn_of _ (by decide +kernel)) ggX5_digest_X3_copyState
set_option maxRecDepth 20000 in
theorem ggX5_digest_X4_digestOf : GoodIn wsX5_digest wsX4_digestOf := goodIn_r _ [48, 31, 33, 10, 11, 12, 58, 59] (by decide +kernel) (by decide +kernel)
set_option maxRecDepth 20000 in
theorem gX5_digest_X4_digestOf : GoodIn wsX5_digest (wsV RX5 73 RX4 yX4_digestOf wsX4_digestOf) := goodIn_app (goodIn_of _ (by decide +kernel)) ggX5_digest_X4_digestOf
theorem dX5_digest_0 : decode cX5_digest 0 = .ok (.aload_n 0, 1) := by decide +kernel
theorem dX5_digest_1 : decode cX5_digest 1 = .ok (.getfield 10, 3) := by decide +kernel
theorem dX5_digest_4 : decode cX5_digest 4 = .ok (.iload_n 1, 1) := by decide +kernel
theorem dX5_digest_5 : decode cX5_digest 5 = .ok (.invokevirtual 59, 3) := by decide +kernel
theorem dX5_digest_8 : decode cX5_digest 8 = .ok (.ifCond .eq 10, 3) := by decide +kernel
theorem dX5_digest_11 : decode cX5_digest 11 = .ok (.iload_n 2, 1) := by decide +kernel
theorem dX5_digest_12 : decode cX5_digest 12 = .ok (.invokestatic 66, 3) := by decide +kernel
theorem dX5_digest_15 : decode cX5_digest 15 = .ok (.ifCond .ne 5, 3) := by decide +kernel
theorem dX5_digest_18 : decode cX5_digest 18 = .ok (.lconst 0, 1) := by decide +kernel
theorem dX5_digest_19 : decode cX5_digest 19 = .ok (.lreturn, 1) := by decide +kernel
theorem dX5_digest_20 : decode cX5_digest 20 = .ok (.aload_n 0, 1) := by decide +kernel
theorem dX5_digest_21 : decode cX5_digest 21 = .ok (.getfield 10, 3) := by decide +kernel
theorem dX5_digest_24 : decode cX5_digest 24 = .ok (.iload_n 1, 1) := by decide +kernel
theorem dX5_digest_25 : decode cX5_digest 25 = .ok (.aload_n 0, 1) := by decide +kernel
theorem dX5_digest_26 : decode cX5_digest 26 = .ok (.getfield 40, 3) := by decide +kernel
theorem dX5_digest_29 : decode cX5_digest 29 = .ok (.invokevirtual 69, 3) := by decide +kernel
theorem dX5_digest_32 : decode cX5_digest 32 = .ok (.aload_n 0, 1) := by decide +kernel
theorem dX5_digest_33 : decode cX5_digest 33 = .ok (.getfield 40, 3) := by decide +kernel
theorem dX5_digest_36 : decode cX5_digest 36 = .ok (.iload_n 2, 1) := by decide +kernel
theorem dX5_digest_37 : decode cX5_digest 37 = .ok (.invokevirtual 73, 3) := by decide +kernel
theorem dX5_digest_40 : decode cX5_digest 40 = .ok (.lreturn, 1) := by decide +kernel
set_option maxRecDepth 20000 in
theorem ggX5_giver_X0_append : GoodIn wsX5_giver wsX0_append := goodIn_r _ [7, 8, 9, 10, 17, 18, 19, 20, 21, 22, 23, 24] (by decide +kernel) (by decide +kernel)
set_option maxRecDepth 20000 in
theorem gX5_giver_X0_append : GoodIn wsX5_giver (wsV RX5 77 RX0 yX0_append wsX0_append) := goodIn_app (goodIn_of _ (by decide +kernel)) ggX5_giver_X0_append
theorem dX5_giver_0 : decode cX5_giver 0 = .ok (.iload_n 1, 1) := by decide +kernel
theorem dX5_giver_1 : decode cX5_giver 1 = .ok (.ifCond .lt 20, 3) := by decide +kernel
theorem dX5_giver_4 : decode cX5_giver 4 = .ok (.iload_n 1, 1) := by decide +kernel
theorem dX5_giver_5 : decode cX5_giver 5 = .ok (.iconst 4, 1) := by decide +kernel
theorem dX5_giver_6 : decode cX5_giver 6 = .ok (.if_icmp .gt 15, 3) := by decide +kernel
theorem dX5_giver_9 : decode cX5_giver 9 = .ok (.iload_n 2, 1) := by decide +kernel
theorem dX5_giver_10 : decode cX5_giver 10 = .ok (.iconst (-1), 1) := by decide +kernel
theorem dX5_giver_11 : decode cX5_giver 11 = .ok (.if_icmp .lt 10, 3) := by decide +kernel
theorem dX5_giver_14 : decode cX5_giver 14 = .ok (.iload_n 2, 1) := by decide +kernel
theorem dX5_giver_15 : decode cX5_giver 15 = .ok (.sipush 200, 3) := by decide +kernel
theorem dX5_giver_18 : decode cX5_giver 18 = .ok (.if_icmp .le 5, 3) := by decide +kernel
theorem dX5_giver_21 : decode cX5_giver 21 = .ok (.iconst (-1), 1) := by decide +kernel
theorem dX5_giver_22 : decode cX5_giver 22 = .ok (.ireturn, 1) := by decide +kernel
theorem dX5_giver_23 : decode cX5_giver 23 = .ok (.aload_n 0, 1) := by decide +kernel
theorem dX5_giver_24 : decode cX5_giver 24 = .ok (.getfield 19, 3) := by decide +kernel
theorem dX5_giver_27 : decode cX5_giver 27 = .ok (.iload_n 1, 1) := by decide +kernel
theorem dX5_giver_28 : decode cX5_giver 28 = .ok (.iload_n 2, 1) := by decide +kernel
theorem dX5_giver_29 : decode cX5_giver 29 = .ok (.invokevirtual 77, 3) := by decide +kernel
theorem dX5_giver_32 : decode cX5_giver 32 = .ok (.ifCond .eq 15, 3) := by decide +kernel
theorem dX5_giver_35 : decode cX5_giver 35 = .ok (.aload_n 0, 1) := by decide +kernel
theorem dX5_giver_36 : decode cX5_giver 36 = .ok (.getfield 19, 3) := by decide +kernel
theorem dX5_giver_39 : decode cX5_giver 39 = .ok (.getfield 80, 3) := by decide +kernel
theorem dX5_giver_42 : decode cX5_giver 42 = .ok (.iconst 1, 1) := by decide +kernel
theorem dX5_giver_43 : decode cX5_giver 43 = .ok (.isub, 1) := by decide +kernel
theorem dX5_giver_44 : decode cX5_giver 44 = .ok (.goto 5, 3) := by decide +kernel
theorem dX5_giver_47 : decode cX5_giver 47 = .ok (.bipush (-2), 2) := by decide +kernel
theorem dX5_giver_49 : decode cX5_giver 49 = .ok (.ireturn, 1) := by decide +kernel
set_option maxRecDepth 20000 in
theorem ggX5_faults_X0_has : GoodIn wsX5_faults wsX0_has := goodIn_r _ [7, 8, 15, 16, 17, 18, 19, 20, 21, 22] (by decide +kernel) (by decide +kernel)
set_option maxRecDepth 20000 in
theorem gX5_faults_X0_has : GoodIn wsX5_faults (wsV RX5 83 RX0 yX0_has wsX0_has) := goodIn_app (goodIn_of _ (by decide +kernel)) ggX5_faults_X0_has
theorem dX5_faults_0 : decode cX5_faults 0 = .ok (.aload_n 0, 1) := by decide +kernel
theorem dX5_faults_1 : decode cX5_faults 1 = .ok (.getfield 19, 3) := by decide +kernel
theorem dX5_faults_4 : decode cX5_faults 4 = .ok (.iload_n 1, 1) := by decide +kernel
theorem dX5_faults_5 : decode cX5_faults 5 = .ok (.invokevirtual 83, 3) := by decide +kernel
theorem dX5_faults_8 : decode cX5_faults 8 = .ok (.ifCond .eq 15, 3) := by decide +kernel
theorem dX5_faults_11 : decode cX5_faults 11 = .ok (.aload_n 0, 1) := by decide +kernel
theorem dX5_faults_12 : decode cX5_faults 12 = .ok (.getfield 19, 3) := by decide +kernel
theorem dX5_faults_15 : decode cX5_faults 15 = .ok (.getfield 86, 3) := by decide +kernel
theorem dX5_faults_18 : decode cX5_faults 18 = .ok (.iload_n 1, 1) := by decide +kernel
theorem dX5_faults_19 : decode cX5_faults 19 = .ok (.iaload, 1) := by decide +kernel
theorem dX5_faults_20 : decode cX5_faults 20 = .ok (.goto 4, 3) := by decide +kernel
theorem dX5_faults_23 : decode cX5_faults 23 = .ok (.iconst (-1), 1) := by decide +kernel
theorem dX5_faults_24 : decode cX5_faults 24 = .ok (.ireturn, 1) := by decide +kernel
theorem dX5_named_0 : decode cX5_named 0 = .ok (.iload_n 1, 1) := by decide +kernel
theorem dX5_named_1 : decode cX5_named 1 = .ok (.ifCond .lt 26, 3) := by decide +kernel
theorem dX5_named_4 : decode cX5_named 4 = .ok (.iload_n 1, 1) := by decide +kernel
theorem dX5_named_5 : decode cX5_named 5 = .ok (.aload_n 0, 1) := by decide +kernel
theorem dX5_named_6 : decode cX5_named 6 = .ok (.getfield 19, 3) := by decide +kernel
theorem dX5_named_9 : decode cX5_named 9 = .ok (.getfield 90, 3) := by decide +kernel
theorem dX5_named_12 : decode cX5_named 12 = .ok (.if_icmp .ge 15, 3) := by decide +kernel
theorem dX5_named_15 : decode cX5_named 15 = .ok (.aload_n 0, 1) := by decide +kernel
theorem dX5_named_16 : decode cX5_named 16 = .ok (.getfield 19, 3) := by decide +kernel
theorem dX5_named_19 : decode cX5_named 19 = .ok (.getfield 93, 3) := by decide +kernel
theorem dX5_named_22 : decode cX5_named 22 = .ok (.iload_n 1, 1) := by decide +kernel
theorem dX5_named_23 : decode cX5_named 23 = .ok (.iaload, 1) := by decide +kernel
theorem dX5_named_24 : decode cX5_named 24 = .ok (.goto 4, 3) := by decide +kernel
theorem dX5_named_27 : decode cX5_named 27 = .ok (.iconst (-1), 1) := by decide +kernel
theorem dX5_named_28 : decode cX5_named 28 = .ok (.ireturn, 1) := by decide +kernel
set_option maxRecDepth 20000 in
theorem ggX5_target_X3_hasHeight : GoodIn wsX5_target wsX3_hasHeight := goodIn_r _ [8, 9, 104, 105, 106] (by decide +kernel) (by decide +kernel)
