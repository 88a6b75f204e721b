theorem dX0_init_0 : decode cX0_init 0 = .ok (.aload_n 0, 1) := by decide +kernel
theorem dX0_init_1 : decode cX0_init 1 = .ok (.invokespecial 3, 3) := by decide +kernel
theorem dX0_init_4 : decode cX0_init 4 = .ok (.return_, 1) := by decide +kernel
set_option maxRecDepth 20000 in
theorem ggX0_set_X7_toneAt : GoodIn wsX0_set wsX7_toneAt := goodIn_r _ [6, 7] (by decide +kernel) (by decide +kernel)
set_option maxRecDepth 20000 in
theorem gX0_set_X7_toneAt : GoodIn wsX0_set (va_wsS RX0 18 yX7_toneAt wsX7_toneAt) := goodIn_app (goodIn_of _ (by decide +kernel)) ggX0_set_X7_toneAt
theorem dX0_set_0 : decode cX0_set 0 = .ok (.aload_n 0, 1) := by decide +kernel
theorem dX0_set_1 : decode cX0_set 1 = .ok (.iload_n 1, 1) := by decide +kernel
theorem dX0_set_2 : decode cX0_set 2 = .ok (.iconst 4, 1) := by decide +kernel
theorem dX0_set_3 : decode cX0_set 3 = .ok (.if_icmp .ne 7, 3) := by decide +kernel
theorem dX0_set_6 : decode cX0_set 6 = .ok (.iconst 0, 1) := by decide +kernel
theorem dX0_set_7 : decode cX0_set 7 = .ok (.goto 13, 3) := by decide +kernel
theorem dX0_set_10 : decode cX0_set 10 = .ok (.iload_n 1, 1) := by decide +kernel
theorem dX0_set_11 : decode cX0_set 11 = .ok (.iconst 3, 1) := by decide +kernel
theorem dX0_set_12 : decode cX0_set 12 = .ok (.if_icmp .ne 7, 3) := by decide +kernel
theorem dX0_set_15 : decode cX0_set 15 = .ok (.iconst 1, 1) := by decide +kernel
theorem dX0_set_16 : decode cX0_set 16 = .ok (.goto 4, 3) := by decide +kernel
theorem dX0_set_19 : decode cX0_set 19 = .ok (.iconst 2, 1) := by decide +kernel
theorem dX0_set_20 : decode cX0_set 20 = .ok (.putfield 9, 3) := by decide +kernel
theorem dX0_set_23 : decode cX0_set 23 = .ok (.aload_n 0, 1) := by decide +kernel
theorem dX0_set_24 : decode cX0_set 24 = .ok (.iconst 0, 1) := by decide +kernel
theorem dX0_set_25 : decode cX0_set 25 = .ok (.putfield 15, 3) := by decide +kernel
theorem dX0_set_28 : decode cX0_set 28 = .ok (.iconst 0, 1) := by decide +kernel
theorem dX0_set_29 : decode cX0_set 29 = .ok (.istore_n 3, 1) := by decide +kernel
theorem dX0_set_30 : decode cX0_set 30 = .ok (.iload_n 3, 1) := by decide +kernel
theorem dX0_set_31 : decode cX0_set 31 = .ok (.bipush 7, 2) := by decide +kernel
theorem dX0_set_33 : decode cX0_set 33 = .ok (.if_icmp .ge 54, 3) := by decide +kernel
theorem dX0_set_36 : decode cX0_set 36 = .ok (.iconst 0, 1) := by decide +kernel
theorem dX0_set_37 : decode cX0_set 37 = .ok (.istore 4, 2) := by decide +kernel
theorem dX0_set_39 : decode cX0_set 39 = .ok (.iload 4, 2) := by decide +kernel
theorem dX0_set_41 : decode cX0_set 41 = .ok (.iconst 3, 1) := by decide +kernel
theorem dX0_set_42 : decode cX0_set 42 = .ok (.if_icmp .ge 39, 3) := by decide +kernel
theorem dX0_set_45 : decode cX0_set 45 = .ok (.iload_n 2, 1) := by decide +kernel
theorem dX0_set_46 : decode cX0_set 46 = .ok (.iload_n 3, 1) := by decide +kernel
theorem dX0_set_47 : decode cX0_set 47 = .ok (.iload 4, 2) := by decide +kernel
theorem dX0_set_49 : decode cX0_set 49 = .ok (.invokestatic 18, 3) := by decide +kernel
theorem dX0_set_52 : decode cX0_set 52 = .ok (.ishr, 1) := by decide +kernel
theorem dX0_set_53 : decode cX0_set 53 = .ok (.iconst 1, 1) := by decide +kernel
theorem dX0_set_54 : decode cX0_set 54 = .ok (.iand, 1) := by decide +kernel
theorem dX0_set_55 : decode cX0_set 55 = .ok (.istore 5, 2) := by decide +kernel
theorem dX0_set_57 : decode cX0_set 57 = .ok (.aload_n 0, 1) := by decide +kernel
theorem dX0_set_58 : decode cX0_set 58 = .ok (.dup, 1) := by decide +kernel
theorem dX0_set_59 : decode cX0_set 59 = .ok (.getfield 15, 3) := by decide +kernel
theorem dX0_set_62 : decode cX0_set 62 = .ok (.iload 5, 2) := by decide +kernel
theorem dX0_set_64 : decode cX0_set 64 = .ok (.iload_n 3, 1) := by decide +kernel
theorem dX0_set_65 : decode cX0_set 65 = .ok (.iconst 3, 1) := by decide +kernel
theorem dX0_set_66 : decode cX0_set 66 = .ok (.imul, 1) := by decide +kernel
theorem dX0_set_67 : decode cX0_set 67 = .ok (.iload 4, 2) := by decide +kernel
theorem dX0_set_69 : decode cX0_set 69 = .ok (.iadd, 1) := by decide +kernel
theorem dX0_set_70 : decode cX0_set 70 = .ok (.ishl, 1) := by decide +kernel
theorem dX0_set_71 : decode cX0_set 71 = .ok (.ior, 1) := by decide +kernel
theorem dX0_set_72 : decode cX0_set 72 = .ok (.putfield 15, 3) := by decide +kernel
theorem dX0_set_75 : decode cX0_set 75 = .ok (.iinc 4 1, 3) := by decide +kernel
theorem dX0_set_78 : decode cX0_set 78 = .ok (.goto (-39), 3) := by decide +kernel
theorem dX0_set_81 : decode cX0_set 81 = .ok (.iinc 3 1, 3) := by decide +kernel
theorem dX0_set_84 : decode cX0_set 84 = .ok (.goto (-54), 3) := by decide +kernel
theorem dX0_set_87 : decode cX0_set 87 = .ok (.return_, 1) := by decide +kernel
theorem dX0_holds_0 : decode cX0_holds 0 = .ok (.aload_n 0, 1) := by decide +kernel
theorem dX0_holds_1 : decode cX0_holds 1 = .ok (.getfield 15, 3) := by decide +kernel
theorem dX0_holds_4 : decode cX0_holds 4 = .ok (.iload_n 1, 1) := by decide +kernel
theorem dX0_holds_5 : decode cX0_holds 5 = .ok (.iconst 3, 1) := by decide +kernel
theorem dX0_holds_6 : decode cX0_holds 6 = .ok (.imul, 1) := by decide +kernel
theorem dX0_holds_7 : decode cX0_holds 7 = .ok (.iload_n 2, 1) := by decide +kernel
theorem dX0_holds_8 : decode cX0_holds 8 = .ok (.iadd, 1) := by decide +kernel
theorem dX0_holds_9 : decode cX0_holds 9 = .ok (.ishr, 1) := by decide +kernel
theorem dX0_holds_10 : decode cX0_holds 10 = .ok (.iconst 1, 1) := by decide +kernel
theorem dX0_holds_11 : decode cX0_holds 11 = .ok (.iand, 1) := by decide +kernel
theorem dX0_holds_12 : decode cX0_holds 12 = .ok (.ifCond .eq 7, 3) := by decide +kernel
theorem dX0_holds_15 : decode cX0_holds 15 = .ok (.iconst 1, 1) := by decide +kernel
theorem dX0_holds_16 : decode cX0_holds 16 = .ok (.goto 4, 3) := by decide +kernel
theorem dX0_holds_19 : decode cX0_holds 19 = .ok (.iconst 0, 1) := by decide +kernel
theorem dX0_holds_20 : decode cX0_holds 20 = .ok (.ireturn, 1) := by decide +kernel
set_option maxRecDepth 20000 in
theorem ggX0_movesBetween_X7_positionAt : GoodIn wsX0_movesBetween wsX7_positionAt := goodIn_r _ [5] (by decide +kernel) (by decide +kernel)
set_option maxRecDepth 20000 in
theorem gX0_movesBetween_X7_positionAt : GoodIn wsX0_movesBetween (va_wsS RX0 24 yX7_positionAt wsX7_positionAt) := goodIn_app (goodIn_of _ (by decide +kernel)) ggX0_movesBetween_X7_positionAt
set_option maxRecDepth 20000 in
theorem ggX0_movesBetween_X0_holds : GoodIn wsX0_movesBetween wsX0_holds := goodIn_r _ [10, 11, 12, 13] (by decide +kernel) (by decide +kernel)
set_option maxRecDepth 20000 in
theorem gX0_movesBetween_X0_holds : GoodIn wsX0_movesBetween (wsV RX0 27 RX0 yX0_holds wsX0_holds) := goodIn_app (goodIn_of _ (by decide +kernel)) ggX0_movesBetween_X0_holds
theorem dX0_movesBetween_0 : decode cX0_movesBetween 0 = .ok (.iconst 0, 1) := by decide +kernel
theorem dX0_movesBetween_1 : decode cX0_movesBetween 1 = .ok (.istore_n 3, 1) := by decide +kernel
theorem dX0_movesBetween_2 : decode cX0_movesBetween 2 = .ok (.iconst 0, 1) := by decide +kernel
theorem dX0_movesBetween_3 : decode cX0_movesBetween 3 = .ok (.istore 4, 2) := by decide +kernel
theorem dX0_movesBetween_5 : decode cX0_movesBetween 5 = .ok (.iconst 0, 1) := by decide +kernel
theorem dX0_movesBetween_6 : decode cX0_movesBetween 6 = .ok (.istore 5, 2) := by decide +kernel
theorem dX0_movesBetween_8 : decode cX0_movesBetween 8 = .ok (.iload 5, 2) := by decide +kernel
theorem dX0_movesBetween_10 : decode cX0_movesBetween 10 = .ok (.bipush 7, 2) := by decide +kernel
theorem dX0_movesBetween_12 : decode cX0_movesBetween 12 = .ok (.if_icmp .ge 69, 3) := by decide +kernel
theorem dX0_movesBetween_15 : decode cX0_movesBetween 15 = .ok (.iload_n 1, 1) := by decide +kernel
theorem dX0_movesBetween_16 : decode cX0_movesBetween 16 = .ok (.iload 5, 2) := by decide +kernel
theorem dX0_movesBetween_18 : decode cX0_movesBetween 18 = .ok (.invokestatic 24, 3) := by decide +kernel
theorem dX0_movesBetween_21 : decode cX0_movesBetween 21 = .ok (.istore 6, 2) := by decide +kernel
theorem dX0_movesBetween_23 : decode cX0_movesBetween 23 = .ok (.iload 6, 2) := by decide +kernel
theorem dX0_movesBetween_25 : decode cX0_movesBetween 25 = .ok (.iload_n 2, 1) := by decide +kernel
theorem dX0_movesBetween_26 : decode cX0_movesBetween 26 = .ok (.iload 5, 2) := by decide +kernel
theorem dX0_movesBetween_28 : decode cX0_movesBetween 28 = .ok (.invokestatic 24, 3) := by decide +kernel
theorem dX0_movesBetween_31 : decode cX0_movesBetween 31 = .ok (.if_icmp .eq 44, 3) := by decide +kernel
theorem dX0_movesBetween_34 : decode cX0_movesBetween 34 = .ok (.aload_n 0, 1) := by decide +kernel
theorem dX0_movesBetween_35 : decode cX0_movesBetween 35 = .ok (.iload 5, 2) := by decide +kernel
theorem dX0_movesBetween_37 : decode cX0_movesBetween 37 = .ok (.iload 6, 2) := by decide +kernel
theorem dX0_movesBetween_39 : decode cX0_movesBetween 39 = .ok (.invokevirtual 27, 3) := by decide +kernel
theorem dX0_movesBetween_42 : decode cX0_movesBetween 42 = .ok (.ifCond .eq 5, 3) := by decide +kernel
theorem dX0_movesBetween_45 : decode cX0_movesBetween 45 = .ok (.iconst (-1), 1) := by decide +kernel
theorem dX0_movesBetween_46 : decode cX0_movesBetween 46 = .ok (.ireturn, 1) := by decide +kernel
theorem dX0_movesBetween_47 : decode cX0_movesBetween 47 = .ok (.iload 5, 2) := by decide +kernel
theorem dX0_movesBetween_49 : decode cX0_movesBetween 49 = .ok (.iconst 3, 1) := by decide +kernel
theorem dX0_movesBetween_50 : decode cX0_movesBetween 50 = .ok (.if_icmp .ge 9, 3) := by decide +kernel
theorem dX0_movesBetween_53 : decode cX0_movesBetween 53 = .ok (.iinc 3 1, 3) := by decide +kernel
theorem dX0_movesBetween_56 : decode cX0_movesBetween 56 = .ok (.goto 6, 3) := by decide +kernel
theorem dX0_movesBetween_59 : decode cX0_movesBetween 59 = .ok (.iinc 4 1, 3) := by decide +kernel
theorem dX0_movesBetween_62 : decode cX0_movesBetween 62 = .ok (.iload_n 3, 1) := by decide +kernel
theorem dX0_movesBetween_63 : decode cX0_movesBetween 63 = .ok (.iconst 1, 1) := by decide +kernel
theorem dX0_movesBetween_64 : decode cX0_movesBetween 64 = .ok (.if_icmp .gt 9, 3) := by decide +kernel
theorem dX0_movesBetween_67 : decode cX0_movesBetween 67 = .ok (.iload 4, 2) := by decide +kernel
theorem dX0_movesBetween_69 : decode cX0_movesBetween 69 = .ok (.iconst 1, 1) := by decide +kernel
theorem dX0_movesBetween_70 : decode cX0_movesBetween 70 = .ok (.if_icmp .le 5, 3) := by decide +kernel
theorem dX0_movesBetween_73 : decode cX0_movesBetween 73 = .ok (.iconst (-1), 1) := by decide +kernel
theorem dX0_movesBetween_74 : decode cX0_movesBetween 74 = .ok (.ireturn, 1) := by decide +kernel
theorem dX0_movesBetween_75 : decode cX0_movesBetween 75 = .ok (.iinc 5 1, 3) := by decide +kernel
theorem dX0_movesBetween_78 : decode cX0_movesBetween 78 = .ok (.goto (-70), 3) := by decide +kernel
theorem dX0_movesBetween_81 : decode cX0_movesBetween 81 = .ok (.iload_n 3, 1) := by decide +kernel
theorem dX0_movesBetween_82 : decode cX0_movesBetween 82 = .ok (.iload 4, 2) := by decide +kernel
theorem dX0_movesBetween_84 : decode cX0_movesBetween 84 = .ok (.iadd, 1) := by decide +kernel
theorem dX0_movesBetween_85 : decode cX0_movesBetween 85 = .ok (.aload_n 0, 1) := by decide +kernel
theorem dX0_movesBetween_86 : decode cX0_movesBetween 86 = .ok (.getfield 9, 3) := by decide +kernel
theorem dX0_movesBetween_89 : decode cX0_movesBetween 89 = .ok (.if_icmp .gt 10, 3) := by decide +kernel
theorem dX0_movesBetween_92 : decode cX0_movesBetween 92 = .ok (.iload_n 3, 1) := by decide +kernel
theorem dX0_movesBetween_93 : decode cX0_movesBetween 93 = .ok (.iload 4, 2) := by decide +kernel
theorem dX0_movesBetween_95 : decode cX0_movesBetween 95 = .ok (.iadd, 1) := by decide +kernel
theorem dX0_movesBetween_96 : decode cX0_movesBetween 96 = .ok (.goto 4, 3) := by decide +kernel
theorem dX0_movesBetween_99 : decode cX0_movesBetween 99 = .ok (.iconst (-1), 1) := by decide +kernel
theorem dX0_movesBetween_100 : decode cX0_movesBetween 100 = .ok (.ireturn, 1) := by decide +kernel
theorem dX1_init_0 : decode cX1_init 0 = .ok (.aload_n 0, 1) := by decide +kernel
theorem dX1_init_1 : decode cX1_init 1 = .ok (.invokespecial 3, 3) := by decide +kernel
theorem dX1_init_4 : decode cX1_init 4 = .ok (.aload_n 0, 1) := by decide +kernel
theorem dX1_init_5 : decode cX1_init 5 = .ok (.bipush 56, 2) := by decide +kernel
theorem dX1_init_7 : decode cX1_init 7 = .ok (.newarray .int, 2) := by decide +kernel
theorem dX1_init_9 : decode cX1_init 9 = .ok (.putfield 9, 3) := by decide +kernel
theorem dX1_init_12 : decode cX1_init 12 = .ok (.return_, 1) := by decide +kernel
theorem dX1_append_0 : decode cX1_append 0 = .ok (.aload_n 0, 1) := by decide +kernel
theorem dX1_append_1 : decode cX1_append 1 = .ok (.getfield 15, 3) := by decide +kernel
theorem dX1_append_4 : decode cX1_append 4 = .ok (.bipush 56, 2) := by decide +kernel
theorem dX1_append_6 : decode cX1_append 6 = .ok (.if_icmp .lt 5, 3) := by decide +kernel
theorem dX1_append_9 : decode cX1_append 9 = .ok (.iconst 0, 1) := by decide +kernel
theorem dX1_append_10 : decode cX1_append 10 = .ok (.ireturn, 1) := by decide +kernel
theorem dX1_append_11 : decode cX1_append 11 = .ok (.aload_n 0, 1) := by decide +kernel
theorem dX1_append_12 : decode cX1_append 12 = .ok (.getfield 9, 3) := by decide +kernel
theorem dX1_append_15 : decode cX1_append 15 = .ok (.aload_n 0, 1) := by decide +kernel
theorem dX1_append_16 : decode cX1_append 16 = .ok (.getfield 15, 3) := by decide +kernel
theorem dX1_append_19 : decode cX1_append 19 = .ok (.iload_n 1, 1) := by decide +kernel
theorem dX1_append_20 : decode cX1_append 20 = .ok (.iastore, 1) := by decide +kernel
theorem dX1_append_21 : decode cX1_append 21 = .ok (.aload_n 0, 1) := by decide +kernel
theorem dX1_append_22 : decode cX1_append 22 = .ok (.dup, 1) := by decide +kernel
theorem dX1_append_23 : decode cX1_append 23 = .ok (.getfield 15, 3) := by decide +kernel
theorem dX1_append_26 : decode cX1_append 26 = .ok (.iconst 1, 1) := by decide +kernel
theorem dX1_append_27 : decode cX1_append 27 = .ok (.iadd, 1) := by decide +kernel
theorem dX1_append_28 : decode cX1_append 28 = .ok (.putfield 15, 3) := by decide +kernel
theorem dX1_append_31 : decode cX1_append 31 = .ok (.iconst 1, 1) := by decide +kernel
theorem dX1_append_32 : decode cX1_append 32 = .ok (.ireturn, 1) := by decide +kernel
theorem dX1_clear_0 : decode cX1_clear 0 = .ok (.aload_n 0, 1) := by decide +kernel
theorem dX1_clear_1 : decode cX1_clear 1 = .ok (.getfield 15, 3) := by decide +kernel
theorem dX1_clear_4 : decode cX1_clear 4 = .ok (.istore_n 1, 1) := by decide +kernel
theorem dX1_clear_5 : decode cX1_clear 5 = .ok (.aload_n 0, 1) := by decide +kernel
theorem dX1_clear_6 : decode cX1_clear 6 = .ok (.iconst 0, 1) := by decide +kernel
theorem dX1_clear_7 : decode cX1_clear 7 = .ok (.putfield 15, 3) := by decide +kernel
theorem dX1_clear_10 : decode cX1_clear 10 = .ok (.iload_n 1, 1) := by decide +kernel
theorem dX1_clear_11 : decode cX1_clear 11 = .ok (.ireturn, 1) := by decide +kernel
set_option maxRecDepth 20000 in
theorem ggX1_readBy_X5_restart : GoodIn wsX1_readBy wsX5_restart := goodIn_r _ [7, 8, 9, 10, 11, 12, 13, 14, 15, 16, 17, 67, 68, 69, 70, 71, 72, 73] (by decide +kernel) (by decide +kernel)
set_option maxRecDepth 20000 in
theorem gX1_readBy_X5_restart : GoodIn wsX1_readBy (wsV RX1 19 RX5 yX5_restart wsX5_restart) := goodIn_app (goodIn_of _ (by decide +kernel)) ggX1_readBy_X5_restart
set_option maxRecDepth 20000 in
theorem ggX1_readBy_X5_accept : GoodIn wsX1_readBy wsX5_accept := goodIn_r _ [21, 9, 10, 22, 23, 24, 6, 25, 8, 26, 27, 28, 29, 30, 31, 32, 33, 34, 35, 36, 37, 38, 14, 39, 17, 40, 41, 42, 43, 44, 45, 46, 47, 48, 49, 50, 51, 52, 53, 54, 55, 56, 57, 58, 59, 60, 61, 62, 63, 64, 67, 68, 69, 70, 71, 72, 73] (by decide +kernel) (by decide +kernel)
set_option maxRecDepth 20000 in
theorem gX1_readBy_X5_accept : GoodIn wsX1_readBy (wsV RX1 24 RX5 yX5_accept wsX5_accept) := goodIn_app (goodIn_of _ (by decide +kernel)) ggX1_readBy_X5_accept
theorem dX1_readBy_0 : decode cX1_readBy 0 = .ok (.aload_n 1, 1) := by decide +kernel
theorem dX1_readBy_1 : decode cX1_readBy 1 = .ok (.invokevirtual 19, 3) := by decide +kernel
theorem dX1_readBy_4 : decode cX1_readBy 4 = .ok (.iconst 0, 1) := by decide +kernel
theorem dX1_readBy_5 : decode cX1_readBy 5 = .ok (.istore_n 2, 1) := by decide +kernel
theorem dX1_readBy_6 : decode cX1_readBy 6 = .ok (.iload_n 2, 1) := by decide +kernel
theorem dX1_readBy_7 : decode cX1_readBy 7 = .ok (.aload_n 0, 1) := by decide +kernel
theorem dX1_readBy_8 : decode cX1_readBy 8 = .ok (.getfield 15, 3) := by decide +kernel
theorem dX1_readBy_11 : decode cX1_readBy 11 = .ok (.if_icmp .ge 24, 3) := by decide +kernel
theorem dX1_readBy_14 : decode cX1_readBy 14 = .ok (.aload_n 1, 1) := by decide +kernel
theorem dX1_readBy_15 : decode cX1_readBy 15 = .ok (.aload_n 0, 1) := by decide +kernel
theorem dX1_readBy_16 : decode cX1_readBy 16 = .ok (.getfield 9, 3) := by decide +kernel
theorem dX1_readBy_19 : decode cX1_readBy 19 = .ok (.iload_n 2, 1) := by decide +kernel
theorem dX1_readBy_20 : decode cX1_readBy 20 = .ok (.iaload, 1) := by decide +kernel
theorem dX1_readBy_21 : decode cX1_readBy 21 = .ok (.invokevirtual 24, 3) := by decide +kernel
theorem dX1_readBy_24 : decode cX1_readBy 24 = .ok (.ifCond .ne 5, 3) := by decide +kernel
theorem dX1_readBy_27 : decode cX1_readBy 27 = .ok (.iload_n 2, 1) := by decide +kernel
theorem dX1_readBy_28 : decode cX1_readBy 28 = .ok (.ireturn, 1) := by decide +kernel
theorem dX1_readBy_29 : decode cX1_readBy 29 = .ok (.iinc 2 1, 3) := by decide +kernel
theorem dX1_readBy_32 : decode cX1_readBy 32 = .ok (.goto (-26), 3) := by decide +kernel
theorem dX1_readBy_35 : decode cX1_readBy 35 = .ok (.aload_n 0, 1) := by decide +kernel
theorem dX1_readBy_36 : decode cX1_readBy 36 = .ok (.getfield 15, 3) := by decide +kernel
theorem dX1_readBy_39 : decode cX1_readBy 39 = .ok (.ireturn, 1) := by decide +kernel
theorem dX2_init_0 : decode cX2_init 0 = .ok (.aload_n 0, 1) := by decide +kernel
theorem dX2_init_1 : decode cX2_init 1 = .ok (.invokespecial 3, 3) := by decide +kernel
theorem dX2_init_4 : decode cX2_init 4 = .ok (.aload_n 0, 1) := by decide +kernel
theorem dX2_init_5 : decode cX2_init 5 = .ok (.bipush 8, 2) := by decide +kernel
theorem dX2_init_7 : decode cX2_init 7 = .ok (.newarray .int, 2) := by decide +kernel
theorem dX2_init_9 : decode cX2_init 9 = .ok (.putfield 9, 3) := by decide +kernel
theorem dX2_init_12 : decode cX2_init 12 = .ok (.aload_n 0, 1) := by decide +kernel
theorem dX2_init_13 : decode cX2_init 13 = .ok (.bipush 8, 2) := by decide +kernel
theorem dX2_init_15 : decode cX2_init 15 = .ok (.newarray .int, 2) := by decide +kernel
theorem dX2_init_17 : decode cX2_init 17 = .ok (.putfield 15, 3) := by decide +kernel
theorem dX2_init_20 : decode cX2_init 20 = .ok (.return_, 1) := by decide +kernel
theorem dX2_has_0 : decode cX2_has 0 = .ok (.iload_n 1, 1) := by decide +kernel
theorem dX2_has_1 : decode cX2_has 1 = .ok (.ifCond .lt 15, 3) := by decide +kernel
theorem dX2_has_4 : decode cX2_has 4 = .ok (.iload_n 1, 1) := by decide +kernel
theorem dX2_has_5 : decode cX2_has 5 = .ok (.aload_n 0, 1) := by decide +kernel
theorem dX2_has_6 : decode cX2_has 6 = .ok (.getfield 18, 3) := by decide +kernel
theorem dX2_has_9 : decode cX2_has 9 = .ok (.if_icmp .ge 7, 3) := by decide +kernel
theorem dX2_has_12 : decode cX2_has 12 = .ok (.iconst 1, 1) := by decide +kernel
theorem dX2_has_13 : decode cX2_has 13 = .ok (.goto 4, 3) := by decide +kernel
theorem dX2_has_16 : decode cX2_has 16 = .ok (.iconst 0, 1) := by decide +kernel
theorem dX2_has_17 : decode cX2_has 17 = .ok (.ireturn, 1) := by decide +kernel
theorem dX2_clear_0 : decode cX2_clear 0 = .ok (.aload_n 0, 1) := by decide +kernel
theorem dX2_clear_1 : decode cX2_clear 1 = .ok (.iconst 0, 1) := by decide +kernel
theorem dX2_clear_2 : decode cX2_clear 2 = .ok (.putfield 22, 3) := by decide +kernel
theorem dX2_clear_5 : decode cX2_clear 5 = .ok (.aload_n 0, 1) := by decide +kernel
theorem dX2_clear_6 : decode cX2_clear 6 = .ok (.iconst 0, 1) := by decide +kernel
theorem dX2_clear_7 : decode cX2_clear 7 = .ok (.putfield 18, 3) := by decide +kernel
theorem dX2_clear_10 : decode cX2_clear 10 = .ok (.return_, 1) := by decide +kernel
theorem dX2_become_0 : decode cX2_become 0 = .ok (.aload_n 0, 1) := by decide +kernel
theorem dX2_become_1 : decode cX2_become 1 = .ok (.aload_n 1, 1) := by decide +kernel
theorem dX2_become_2 : decode cX2_become 2 = .ok (.getfield 22, 3) := by decide +kernel
theorem dX2_become_5 : decode cX2_become 5 = .ok (.putfield 22, 3) := by decide +kernel
theorem dX2_become_8 : decode cX2_become 8 = .ok (.aload_n 0, 1) := by decide +kernel
theorem dX2_become_9 : decode cX2_become 9 = .ok (.aload_n 1, 1) := by decide +kernel
theorem dX2_become_10 : decode cX2_become 10 = .ok (.getfield 18, 3) := by decide +kernel
theorem dX2_become_13 : decode cX2_become 13 = .ok (.putfield 18, 3) := by decide +kernel
theorem dX2_become_16 : decode cX2_become 16 = .ok (.aload_n 1, 1) := by decide +kernel
theorem dX2_become_17 : decode cX2_become 17 = .ok (.getfield 9, 3) := by decide +kernel
theorem dX2_become_20 : decode cX2_become 20 = .ok (.iconst 0, 1) := by decide +kernel
theorem dX2_become_21 : decode cX2_become 21 = .ok (.aload_n 0, 1) := by decide +kernel
theorem dX2_become_22 : decode cX2_become 22 = .ok (.getfield 9, 3) := by decide +kernel
theorem dX2_become_25 : decode cX2_become 25 = .ok (.iconst 0, 1) := by decide +kernel
theorem dX2_become_26 : decode cX2_become 26 = .ok (.bipush 8, 2) := by decide +kernel
theorem dX2_become_28 : decode cX2_become 28 = .ok (.invokestatic 25, 3) := by decide +kernel
theorem dX2_become_31 : decode cX2_become 31 = .ok (.aload_n 1, 1) := by decide +kernel
theorem dX2_become_32 : decode cX2_become 32 = .ok (.getfield 15, 3) := by decide +kernel
theorem dX2_become_35 : decode cX2_become 35 = .ok (.iconst 0, 1) := by decide +kernel
theorem dX2_become_36 : decode cX2_become 36 = .ok (.aload_n 0, 1) := by decide +kernel
theorem dX2_become_37 : decode cX2_become 37 = .ok (.getfield 15, 3) := by decide +kernel
theorem dX2_become_40 : decode cX2_become 40 = .ok (.iconst 0, 1) := by decide +kernel
theorem dX2_become_41 : decode cX2_become 41 = .ok (.bipush 8, 2) := by decide +kernel
theorem dX2_become_43 : decode cX2_become 43 = .ok (.invokestatic 25, 3) := by decide +kernel
theorem dX2_become_46 : decode cX2_become 46 = .ok (.return_, 1) := by decide +kernel
theorem dX2_insert_0 : decode cX2_insert 0 = .ok (.aload_n 0, 1) := by decide +kernel
theorem dX2_insert_1 : decode cX2_insert 1 = .ok (.getfield 18, 3) := by decide +kernel
theorem dX2_insert_4 : decode cX2_insert 4 = .ok (.bipush 8, 2) := by decide +kernel
theorem dX2_insert_6 : decode cX2_insert 6 = .ok (.if_icmp .ge 15, 3) := by decide +kernel
theorem dX2_insert_9 : decode cX2_insert 9 = .ok (.iload_n 1, 1) := by decide +kernel
theorem dX2_insert_10 : decode cX2_insert 10 = .ok (.ifCond .lt 11, 3) := by decide +kernel
theorem dX2_insert_13 : decode cX2_insert 13 = .ok (.iload_n 1, 1) := by decide +kernel
theorem dX2_insert_14 : decode cX2_insert 14 = .ok (.aload_n 0, 1) := by decide +kernel
theorem dX2_insert_15 : decode cX2_insert 15 = .ok (.getfield 18, 3) := by decide +kernel
theorem dX2_insert_18 : decode cX2_insert 18 = .ok (.if_icmp .le 5, 3) := by decide +kernel
theorem dX2_insert_21 : decode cX2_insert 21 = .ok (.iconst 0, 1) := by decide +kernel
theorem dX2_insert_22 : decode cX2_insert 22 = .ok (.ireturn, 1) := by decide +kernel
theorem dX2_insert_23 : decode cX2_insert 23 = .ok (.aload_n 0, 1) := by decide +kernel
theorem dX2_insert_24 : decode cX2_insert 24 = .ok (.getfield 18, 3) := by decide +kernel
theorem dX2_insert_27 : decode cX2_insert 27 = .ok (.istore 4, 2) := by decide +kernel
theorem dX2_insert_29 : decode cX2_insert 29 = .ok (.iload 4, 2) := by decide +kernel
theorem dX2_insert_31 : decode cX2_insert 31 = .ok (.iload_n 1, 1) := by decide +kernel
theorem dX2_insert_32 : decode cX2_insert 32 = .ok (.if_icmp .le 41, 3) := by decide +kernel
theorem dX2_insert_35 : decode cX2_insert 35 = .ok (.aload_n 0, 1) := by decide +kernel
theorem dX2_insert_36 : decode cX2_insert 36 = .ok (.getfield 9, 3) := by decide +kernel
theorem dX2_insert_39 : decode cX2_insert 39 = .ok (.iload 4, 2) := by decide +kernel
theorem dX2_insert_41 : decode cX2_insert 41 = .ok (.aload_n 0, 1) := by decide +kernel
theorem dX2_insert_42 : decode cX2_insert 42 = .ok (.getfield 9, 3) := by decide +kernel
theorem dX2_insert_45 : decode cX2_insert 45 = .ok (.iload 4, 2) := by decide +kernel
theorem dX2_insert_47 : decode cX2_insert 47 = .ok (.iconst 1, 1) := by decide +kernel
theorem dX2_insert_48 : decode cX2_insert 48 = .ok (.isub, 1) := by decide +kernel
theorem dX2_insert_49 : decode cX2_insert 49 = .ok (.iaload, 1) := by decide +kernel
theorem dX2_insert_50 : decode cX2_insert 50 = .ok (.iastore, 1) := by decide +kernel
theorem dX2_insert_51 : decode cX2_insert 51 = .ok (.aload_n 0, 1) := by decide +kernel
theorem dX2_insert_52 : decode cX2_insert 52 = .ok (.getfield 15, 3) := by decide +kernel
theorem dX2_insert_55 : decode cX2_insert 55 = .ok (.iload 4, 2) := by decide +kernel
theorem dX2_insert_57 : decode cX2_insert 57 = .ok (.aload_n 0, 1) := by decide +kernel
theorem dX2_insert_58 : decode cX2_insert 58 = .ok (.getfield 15, 3) := by decide +kernel
theorem dX2_insert_61 : decode cX2_insert 61 = .ok (.iload 4, 2) := by decide +kernel
theorem dX2_insert_63 : decode cX2_insert 63 = .ok (.iconst 1, 1) := by decide +kernel
theorem dX2_insert_64 : decode cX2_insert 64 = .ok (.isub, 1) := by decide +kernel
theorem dX2_insert_65 : decode cX2_insert 65 = .ok (.iaload, 1) := by decide +kernel
theorem dX2_insert_66 : decode cX2_insert 66 = .ok (.iastore, 1) := by decide +kernel
theorem dX2_insert_67 : decode cX2_insert 67 = .ok (.iinc 4 (-1), 3) := by decide +kernel
theorem dX2_insert_70 : decode cX2_insert 70 = .ok (.goto (-41), 3) := by decide +kernel
theorem dX2_insert_73 : decode cX2_insert 73 = .ok (.aload_n 0, 1) := by decide +kernel
theorem dX2_insert_74 : decode cX2_insert 74 = .ok (.getfield 9, 3) := by decide +kernel
theorem dX2_insert_77 : decode cX2_insert 77 = .ok (.iload_n 1, 1) := by decide +kernel
theorem dX2_insert_78 : decode cX2_insert 78 = .ok (.iload_n 2, 1) := by decide +kernel
theorem dX2_insert_79 : decode cX2_insert 79 = .ok (.iastore, 1) := by decide +kernel
theorem dX2_insert_80 : decode cX2_insert 80 = .ok (.aload_n 0, 1) := by decide +kernel
theorem dX2_insert_81 : decode cX2_insert 81 = .ok (.getfield 15, 3) := by decide +kernel
theorem dX2_insert_84 : decode cX2_insert 84 = .ok (.iload_n 1, 1) := by decide +kernel
theorem dX2_insert_85 : decode cX2_insert 85 = .ok (.iload_n 3, 1) := by decide +kernel
theorem dX2_insert_86 : decode cX2_insert 86 = .ok (.iastore, 1) := by decide +kernel
theorem dX2_insert_87 : decode cX2_insert 87 = .ok (.aload_n 0, 1) := by decide +kernel
theorem dX2_insert_88 : decode cX2_insert 88 = .ok (.dup, 1) := by decide +kernel
theorem dX2_insert_89 : decode cX2_insert 89 = .ok (.getfield 18, 3) := by decide +kernel
theorem dX2_insert_92 : decode cX2_insert 92 = .ok (.iconst 1, 1) := by decide +kernel
theorem dX2_insert_93 : decode cX2_insert 93 = .ok (.iadd, 1) := by decide +kernel
theorem dX2_insert_94 : decode cX2_insert 94 = .ok (.putfield 18, 3) := by decide +kernel
theorem dX2_insert_97 : decode cX2_insert 97 = .ok (.iconst 1, 1) := by decide +kernel
theorem dX2_insert_98 : decode cX2_insert 98 = .ok (.ireturn, 1) := by decide +kernel
set_option maxRecDepth 20000 in
theorem ggX2_remove_X2_has : GoodIn wsX2_remove wsX2_has := goodIn_r _ [8, 1, 9, 10, 11, 12] (by decide +kernel) (by decide +kernel)
set_option maxRecDepth 20000 in
theorem gX2_remove_X2_has : GoodIn wsX2_remove (wsV RX2 31 RX2 yX2_has wsX2_has) := goodIn_app (goodIn_of _ (by decide +kernel)) ggX2_remove_X2_has
theorem dX2_remove_0 : decode cX2_remove 0 = .ok (.aload_n 0, 1) := by decide +kernel
theorem dX2_remove_1 : decode cX2_remove 1 = .ok (.iload_n 1, 1) := by decide +kernel
theorem dX2_remove_2 : decode cX2_remove 2 = .ok (.invokevirtual 31, 3) := by decide +kernel
theorem dX2_remove_5 : decode cX2_remove 5 = .ok (.ifCond .ne 4, 3) := by decide +kernel
theorem dX2_remove_8 : decode cX2_remove 8 = .ok (.return_, 1) := by decide +kernel
theorem dX2_remove_9 : decode cX2_remove 9 = .ok (.aload_n 0, 1) := by decide +kernel
theorem dX2_remove_10 : decode cX2_remove 10 = .ok (.dup, 1) := by decide +kernel
theorem dX2_remove_11 : decode cX2_remove 11 = .ok (.getfield 18, 3) := by decide +kernel
theorem dX2_remove_14 : decode cX2_remove 14 = .ok (.iconst 1, 1) := by decide +kernel
theorem dX2_remove_15 : decode cX2_remove 15 = .ok (.isub, 1) := by decide +kernel
theorem dX2_remove_16 : decode cX2_remove 16 = .ok (.putfield 18, 3) := by decide +kernel
theorem dX2_remove_19 : decode cX2_remove 19 = .ok (.iload_n 1, 1) := by decide +kernel
theorem dX2_remove_20 : decode cX2_remove 20 = .ok (.istore_n 2, 1) := by decide +kernel
theorem dX2_remove_21 : decode cX2_remove 21 = .ok (.iload_n 2, 1) := by decide +kernel
theorem dX2_remove_22 : decode cX2_remove 22 = .ok (.aload_n 0, 1) := by decide +kernel
theorem dX2_remove_23 : decode cX2_remove 23 = .ok (.getfield 18, 3) := by decide +kernel
theorem dX2_remove_26 : decode cX2_remove 26 = .ok (.if_icmp .ge 37, 3) := by decide +kernel
theorem dX2_remove_29 : decode cX2_remove 29 = .ok (.aload_n 0, 1) := by decide +kernel
theorem dX2_remove_30 : decode cX2_remove 30 = .ok (.getfield 9, 3) := by decide +kernel
theorem dX2_remove_33 : decode cX2_remove 33 = .ok (.iload_n 2, 1) := by decide +kernel
theorem dX2_remove_34 : decode cX2_remove 34 = .ok (.aload_n 0, 1) := by decide +kernel
theorem dX2_remove_35 : decode cX2_remove 35 = .ok (.getfield 9, 3) := by decide +kernel
theorem dX2_remove_38 : decode cX2_remove 38 = .ok (.iload_n 2, 1) := by decide +kernel
theorem dX2_remove_39 : decode cX2_remove 39 = .ok (.iconst 1, 1) := by decide +kernel
theorem dX2_remove_40 : decode cX2_remove 40 = .ok (.iadd, 1) := by decide +kernel
theorem dX2_remove_41 : decode cX2_remove 41 = .ok (.iaload, 1) := by decide +kernel
theorem dX2_remove_42 : decode cX2_remove 42 = .ok (.iastore, 1) := by decide +kernel
theorem dX2_remove_43 : decode cX2_remove 43 = .ok (.aload_n 0, 1) := by decide +kernel
theorem dX2_remove_44 : decode cX2_remove 44 = .ok (.getfield 15, 3) := by decide +kernel
theorem dX2_remove_47 : decode cX2_remove 47 = .ok (.iload_n 2, 1) := by decide +kernel
theorem dX2_remove_48 : decode cX2_remove 48 = .ok (.aload_n 0, 1) := by decide +kernel
theorem dX2_remove_49 : decode cX2_remove 49 = .ok (.getfield 15, 3) := by decide +kernel
theorem dX2_remove_52 : decode cX2_remove 52 = .ok (.iload_n 2, 1) := by decide +kernel
theorem dX2_remove_53 : decode cX2_remove 53 = .ok (.iconst 1, 1) := by decide +kernel
theorem dX2_remove_54 : decode cX2_remove 54 = .ok (.iadd, 1) := by decide +kernel
theorem dX2_remove_55 : decode cX2_remove 55 = .ok (.iaload, 1) := by decide +kernel
theorem dX2_remove_56 : decode cX2_remove 56 = .ok (.iastore, 1) := by decide +kernel
theorem dX2_remove_57 : decode cX2_remove 57 = .ok (.iinc 2 1, 3) := by decide +kernel
theorem dX2_remove_60 : decode cX2_remove 60 = .ok (.goto (-39), 3) := by decide +kernel
theorem dX2_remove_63 : decode cX2_remove 63 = .ok (.return_, 1) := by decide +kernel
set_option maxRecDepth 20000 in
theorem ggX2_exchange_X2_has : GoodIn wsX2_exchange wsX2_has := goodIn_r _ [7, 8, 9, 10, 11, 12] (by decide +kernel) (by decide +kernel)
set_option maxRecDepth 20000 in
theorem gX2_exchange_X2_has : GoodIn wsX2_exchange (wsV RX2 31 RX2 yX2_has wsX2_has) := goodIn_app (goodIn_of _ (by decide +kernel)) ggX2_exchange_X2_has
theorem dX2_exchange_0 : decode cX2_exchange 0 = .ok (.aload_n 0, 1) := by decide +kernel
theorem dX2_exchange_1 : decode cX2_exchange 1 = .ok (.iload_n 1, 1) := by decide +kernel
theorem dX2_exchange_2 : decode cX2_exchange 2 = .ok (.invokevirtual 31, 3) := by decide +kernel
theorem dX2_exchange_5 : decode cX2_exchange 5 = .ok (.ifCond .eq 11, 3) := by decide +kernel
theorem dX2_exchange_8 : decode cX2_exchange 8 = .ok (.aload_n 0, 1) := by decide +kernel
theorem dX2_exchange_9 : decode cX2_exchange 9 = .ok (.iload_n 2, 1) := by decide +kernel
theorem dX2_exchange_10 : decode cX2_exchange 10 = .ok (.invokevirtual 31, 3) := by decide +kernel
theorem dX2_exchange_13 : decode cX2_exchange 13 = .ok (.ifCond .ne 4, 3) := by decide +kernel
theorem dX2_exchange_16 : decode cX2_exchange 16 = .ok (.return_, 1) := by decide +kernel
theorem dX2_exchange_17 : decode cX2_exchange 17 = .ok (.aload_n 0, 1) := by decide +kernel
theorem dX2_exchange_18 : decode cX2_exchange 18 = .ok (.getfield 9, 3) := by decide +kernel
theorem dX2_exchange_21 : decode cX2_exchange 21 = .ok (.iload_n 1, 1) := by decide +kernel
theorem dX2_exchange_22 : decode cX2_exchange 22 = .ok (.iaload, 1) := by decide +kernel
theorem dX2_exchange_23 : decode cX2_exchange 23 = .ok (.istore_n 3, 1) := by decide +kernel
theorem dX2_exchange_24 : decode cX2_exchange 24 = .ok (.aload_n 0, 1) := by decide +kernel
theorem dX2_exchange_25 : decode cX2_exchange 25 = .ok (.getfield 9, 3) := by decide +kernel
theorem dX2_exchange_28 : decode cX2_exchange 28 = .ok (.iload_n 1, 1) := by decide +kernel
theorem dX2_exchange_29 : decode cX2_exchange 29 = .ok (.aload_n 0, 1) := by decide +kernel
theorem dX2_exchange_30 : decode cX2_exchange 30 = .ok (.getfield 9, 3) := by decide +kernel
theorem dX2_exchange_33 : decode cX2_exchange 33 = .ok (.iload_n 2, 1) := by decide +kernel
theorem dX2_exchange_34 : decode cX2_exchange 34 = .ok (.iaload, 1) := by decide +kernel
theorem dX2_exchange_35 : decode cX2_exchange 35 = .ok (.iastore, 1) := by decide +kernel
theorem dX2_exchange_36 : decode cX2_exchange 36 = .ok (.aload_n 0, 1) := by decide +kernel
theorem dX2_exchange_37 : decode cX2_exchange 37 = .ok (.getfield 9, 3) := by decide +kernel
theorem dX2_exchange_40 : decode cX2_exchange 40 = .ok (.iload_n 2, 1) := by decide +kernel
theorem dX2_exchange_41 : decode cX2_exchange 41 = .ok (.iload_n 3, 1) := by decide +kernel
theorem dX2_exchange_42 : decode cX2_exchange 42 = .ok (.iastore, 1) := by decide +kernel
theorem dX2_exchange_43 : decode cX2_exchange 43 = .ok (.aload_n 0, 1) := by decide +kernel
theorem dX2_exchange_44 : decode cX2_exchange 44 = .ok (.getfield 15, 3) := by decide +kernel
theorem dX2_exchange_47 : decode cX2_exchange 47 = .ok (.iload_n 1, 1) := by decide +kernel
theorem dX2_exchange_48 : decode cX2_exchange 48 = .ok (.iaload, 1) := by decide +kernel
theorem dX2_exchange_49 : decode cX2_exchange 49 = .ok (.istore 4, 2) := by decide +kernel
theorem dX2_exchange_51 : decode cX2_exchange 51 = .ok (.aload_n 0, 1) := by decide +kernel
theorem dX2_exchange_52 : decode cX2_exchange 52 = .ok (.getfield 15, 3) := by decide +kernel
theorem dX2_exchange_55 : decode cX2_exchange 55 = .ok (.iload_n 1, 1) := by decide +kernel
theorem dX2_exchange_56 : decode cX2_exchange 56 = .ok (.aload_n 0, 1) := by decide +kernel
theorem dX2_exchange_57 : decode cX2_exchange 57 = .ok (.getfield 15, 3) := by decide +kernel
theorem dX2_exchange_60 : decode cX2_exchange 60 = .ok (.iload_n 2, 1) := by decide +kernel
theorem dX2_exchange_61 : decode cX2_exchange 61 = .ok (.iaload, 1) := by decide +kernel
theorem dX2_exchange_62 : decode cX2_exchange 62 = .ok (.iastore, 1) := by decide +kernel
theorem dX2_exchange_63 : decode cX2_exchange 63 = .ok (.aload_n 0, 1) := by decide +kernel
theorem dX2_exchange_64 : decode cX2_exchange 64 = .ok (.getfield 15, 3) := by decide +kernel
theorem dX2_exchange_67 : decode cX2_exchange 67 = .ok (.iload_n 2, 1) := by decide +kernel
theorem dX2_exchange_68 : decode cX2_exchange 68 = .ok (.iload 4, 2) := by decide +kernel
theorem dX2_exchange_70 : decode cX2_exchange 70 = .ok (.iastore, 1) := by decide +kernel
theorem dX2_exchange_71 : decode cX2_exchange 71 = .ok (.return_, 1) := by decide +kernel
set_option maxRecDepth 20000 in
theorem ggX2_raise_X8_raised : GoodIn wsX2_raise wsX8_raised := goodIn_r _ [5] (by decide +kernel) (by decide +kernel)
set_option maxRecDepth 20000 in
theorem gX2_raise_X8_raised_n35 : GoodIn wsX2_raise (wsX8_raised) := ggX2_raise_X8_raised
theorem dX2_raise_0 : decode cX2_raise 0 = .ok (.iconst 0, 1) := by decide +kernel
theorem dX2_raise_1 : decode cX2_raise 1 = .ok (.istore_n 2, 1) := by decide +kernel
theorem dX2_raise_2 : decode cX2_raise 2 = .ok (.iload_n 2, 1) := by decide +kernel
theorem dX2_raise_3 : decode cX2_raise 3 = .ok (.aload_n 0, 1) := by decide +kernel
theorem dX2_raise_4 : decode cX2_raise 4 = .ok (.getfield 18, 3) := by decide +kernel
theorem dX2_raise_7 : decode cX2_raise 7 = .ok (.if_icmp .ge 25, 3) := by decide +kernel
theorem dX2_raise_10 : decode cX2_raise 10 = .ok (.aload_n 0, 1) := by decide +kernel
theorem dX2_raise_11 : decode cX2_raise 11 = .ok (.getfield 15, 3) := by decide +kernel
theorem dX2_raise_14 : decode cX2_raise 14 = .ok (.iload_n 2, 1) := by decide +kernel
theorem dX2_raise_15 : decode cX2_raise 15 = .ok (.aload_n 0, 1) := by decide +kernel
theorem dX2_raise_16 : decode cX2_raise 16 = .ok (.getfield 15, 3) := by decide +kernel
theorem dX2_raise_19 : decode cX2_raise 19 = .ok (.iload_n 2, 1) := by decide +kernel
theorem dX2_raise_20 : decode cX2_raise 20 = .ok (.iaload, 1) := by decide +kernel
theorem dX2_raise_21 : decode cX2_raise 21 = .ok (.iload_n 1, 1) := by decide +kernel
theorem dX2_raise_22 : decode cX2_raise 22 = .ok (.invokestatic 35, 3) := by decide +kernel
theorem dX2_raise_25 : decode cX2_raise 25 = .ok (.iastore, 1) := by decide +kernel
theorem dX2_raise_26 : decode cX2_raise 26 = .ok (.iinc 2 1, 3) := by decide +kernel
theorem dX2_raise_29 : decode cX2_raise 29 = .ok (.goto (-27), 3) := by decide +kernel
theorem dX2_raise_32 : decode cX2_raise 32 = .ok (.return_, 1) := by decide +kernel
theorem dX2_tonesOfLast_0 : decode cX2_tonesOfLast 0 = .ok (.aload_n 0, 1) := by decide +kernel
theorem dX2_tonesOfLast_1 : decode cX2_tonesOfLast 1 = .ok (.getfield 18, 3) := by decide +kernel
theorem dX2_tonesOfLast_4 : decode cX2_tonesOfLast 4 = .ok (.ifCond .ne 7, 3) := by decide +kernel
theorem dX2_tonesOfLast_7 : decode cX2_tonesOfLast 7 = .ok (.iconst 0, 1) := by decide +kernel
theorem dX2_tonesOfLast_8 : decode cX2_tonesOfLast 8 = .ok (.goto 14, 3) := by decide +kernel
theorem dX2_tonesOfLast_11 : decode cX2_tonesOfLast 11 = .ok (.aload_n 0, 1) := by decide +kernel
theorem dX2_tonesOfLast_12 : decode cX2_tonesOfLast 12 = .ok (.getfield 15, 3) := by decide +kernel
theorem dX2_tonesOfLast_15 : decode cX2_tonesOfLast 15 = .ok (.aload_n 0, 1) := by decide +kernel
theorem dX2_tonesOfLast_16 : decode cX2_tonesOfLast 16 = .ok (.getfield 18, 3) := by decide +kernel
theorem dX2_tonesOfLast_19 : decode cX2_tonesOfLast 19 = .ok (.iconst 1, 1) := by decide +kernel
theorem dX2_tonesOfLast_20 : decode cX2_tonesOfLast 20 = .ok (.isub, 1) := by decide +kernel
theorem dX2_tonesOfLast_21 : decode cX2_tonesOfLast 21 = .ok (.iaload, 1) := by decide +kernel
theorem dX2_tonesOfLast_22 : decode cX2_tonesOfLast 22 = .ok (.ireturn, 1) := by decide +kernel
theorem dX2_addToLast_0 : decode cX2_addToLast 0 = .ok (.aload_n 0, 1) := by decide +kernel
theorem dX2_addToLast_1 : decode cX2_addToLast 1 = .ok (.getfield 18, 3) := by decide +kernel
theorem dX2_addToLast_4 : decode cX2_addToLast 4 = .ok (.ifCond .le 18, 3) := by decide +kernel
theorem dX2_addToLast_7 : decode cX2_addToLast 7 = .ok (.aload_n 0, 1) := by decide +kernel
theorem dX2_addToLast_8 : decode cX2_addToLast 8 = .ok (.getfield 15, 3) := by decide +kernel
theorem dX2_addToLast_11 : decode cX2_addToLast 11 = .ok (.aload_n 0, 1) := by decide +kernel
theorem dX2_addToLast_12 : decode cX2_addToLast 12 = .ok (.getfield 18, 3) := by decide +kernel
theorem dX2_addToLast_15 : decode cX2_addToLast 15 = .ok (.iconst 1, 1) := by decide +kernel
theorem dX2_addToLast_16 : decode cX2_addToLast 16 = .ok (.isub, 1) := by decide +kernel
theorem dX2_addToLast_17 : decode cX2_addToLast 17 = .ok (.dup2, 1) := by decide +kernel
theorem dX2_addToLast_18 : decode cX2_addToLast 18 = .ok (.iaload, 1) := by decide +kernel
theorem dX2_addToLast_19 : decode cX2_addToLast 19 = .ok (.iload_n 1, 1) := by decide +kernel
theorem dX2_addToLast_20 : decode cX2_addToLast 20 = .ok (.ior, 1) := by decide +kernel
theorem dX2_addToLast_21 : decode cX2_addToLast 21 = .ok (.iastore, 1) := by decide +kernel
theorem dX2_addToLast_22 : decode cX2_addToLast 22 = .ok (.return_, 1) := by decide +kernel
theorem dX2_tonesOfAll_0 : decode cX2_tonesOfAll 0 = .ok (.iconst 0, 1) := by decide +kernel
theorem dX2_tonesOfAll_1 : decode cX2_tonesOfAll 1 = .ok (.istore_n 1, 1) := by decide +kernel
theorem dX2_tonesOfAll_2 : decode cX2_tonesOfAll 2 = .ok (.iconst 0, 1) := by decide +kernel
theorem dX2_tonesOfAll_3 : decode cX2_tonesOfAll 3 = .ok (.istore_n 2, 1) := by decide +kernel
theorem dX2_tonesOfAll_4 : decode cX2_tonesOfAll 4 = .ok (.iload_n 2, 1) := by decide +kernel
theorem dX2_tonesOfAll_5 : decode cX2_tonesOfAll 5 = .ok (.aload_n 0, 1) := by decide +kernel
theorem dX2_tonesOfAll_6 : decode cX2_tonesOfAll 6 = .ok (.getfield 18, 3) := by decide +kernel
theorem dX2_tonesOfAll_9 : decode cX2_tonesOfAll 9 = .ok (.if_icmp .ge 18, 3) := by decide +kernel
theorem dX2_tonesOfAll_12 : decode cX2_tonesOfAll 12 = .ok (.iload_n 1, 1) := by decide +kernel
theorem dX2_tonesOfAll_13 : decode cX2_tonesOfAll 13 = .ok (.aload_n 0, 1) := by decide +kernel
theorem dX2_tonesOfAll_14 : decode cX2_tonesOfAll 14 = .ok (.getfield 15, 3) := by decide +kernel
theorem dX2_tonesOfAll_17 : decode cX2_tonesOfAll 17 = .ok (.iload_n 2, 1) := by decide +kernel
theorem dX2_tonesOfAll_18 : decode cX2_tonesOfAll 18 = .ok (.iaload, 1) := by decide +kernel
theorem dX2_tonesOfAll_19 : decode cX2_tonesOfAll 19 = .ok (.ior, 1) := by decide +kernel
theorem dX2_tonesOfAll_20 : decode cX2_tonesOfAll 20 = .ok (.istore_n 1, 1) := by decide +kernel
theorem dX2_tonesOfAll_21 : decode cX2_tonesOfAll 21 = .ok (.iinc 2 1, 3) := by decide +kernel
theorem dX2_tonesOfAll_24 : decode cX2_tonesOfAll 24 = .ok (.goto (-20), 3) := by decide +kernel
theorem dX2_tonesOfAll_27 : decode cX2_tonesOfAll 27 = .ok (.iload_n 1, 1) := by decide +kernel
theorem dX2_tonesOfAll_28 : decode cX2_tonesOfAll 28 = .ok (.ireturn, 1) := by decide +kernel
set_option maxRecDepth 20000 in
theorem ggX3_init_X0_init : GoodIn wsX3_init wsX0_init := goodIn_r _ [19, 20, 2, 3] (by decide +kernel) (by decide +kernel)
set_option maxRecDepth 20000 in
theorem gX3_init_X0_init_n13 : GoodIn wsX3_init (wsX0_init) := ggX3_init_X0_init
theorem dX3_init_0 : decode cX3_init 0 = .ok (.aload_n 0, 1) := by decide +kernel
theorem dX3_init_1 : decode cX3_init 1 = .ok (.invokespecial 5, 3) := by decide +kernel
theorem dX3_init_4 : decode cX3_init 4 = .ok (.aload_n 0, 1) := by decide +kernel
theorem dX3_init_5 : decode cX3_init 5 = .ok (.new 11, 3) := by decide +kernel
theorem dX3_init_8 : decode cX3_init 8 = .ok (.dup, 1) := by decide +kernel
theorem dX3_init_9 : decode cX3_init 9 = .ok (.invokespecial 13, 3) := by decide +kernel
theorem dX3_init_12 : decode cX3_init 12 = .ok (.putfield 14, 3) := by decide +kernel
theorem dX3_init_15 : decode cX3_init 15 = .ok (.aload_n 0, 1) := by decide +kernel
theorem dX3_init_16 : decode cX3_init 16 = .ok (.sipush 2187, 3) := by decide +kernel
theorem dX3_init_19 : decode cX3_init 19 = .ok (.newarray .int, 2) := by decide +kernel
theorem dX3_init_21 : decode cX3_init 21 = .ok (.putfield 18, 3) := by decide +kernel
theorem dX3_init_24 : decode cX3_init 24 = .ok (.aload_n 0, 1) := by decide +kernel
theorem dX3_init_25 : decode cX3_init 25 = .ok (.sipush 2187, 3) := by decide +kernel
theorem dX3_init_28 : decode cX3_init 28 = .ok (.newarray .int, 2) := by decide +kernel
theorem dX3_init_30 : decode cX3_init 30 = .ok (.putfield 22, 3) := by decide +kernel
theorem dX3_init_33 : decode cX3_init 33 = .ok (.aload_n 0, 1) := by decide +kernel
theorem dX3_init_34 : decode cX3_init 34 = .ok (.sipush 2187, 3) := by decide +kernel
theorem dX3_init_37 : decode cX3_init 37 = .ok (.newarray .int, 2) := by decide +kernel
theorem dX3_init_39 : decode cX3_init 39 = .ok (.putfield 25, 3) := by decide +kernel
theorem dX3_init_42 : decode cX3_init 42 = .ok (.aload_n 0, 1) := by decide +kernel
theorem dX3_init_43 : decode cX3_init 43 = .ok (.bipush 8, 2) := by decide +kernel
theorem dX3_init_45 : decode cX3_init 45 = .ok (.sipush 2187, 3) := by decide +kernel
theorem dX3_init_48 : decode cX3_init 48 = .ok (.multianewarray 28 2, 4) := by decide +kernel
theorem dX3_init_52 : decode cX3_init 52 = .ok (.putfield 30, 3) := by decide +kernel
theorem dX3_init_55 : decode cX3_init 55 = .ok (.aload_n 0, 1) := by decide +kernel
theorem dX3_init_56 : decode cX3_init 56 = .ok (.bipush 8, 2) := by decide +kernel
theorem dX3_init_58 : decode cX3_init 58 = .ok (.newarray .int, 2) := by decide +kernel
theorem dX3_init_60 : decode cX3_init 60 = .ok (.putfield 33, 3) := by decide +kernel
theorem dX3_init_63 : decode cX3_init 63 = .ok (.aload_n 0, 1) := by decide +kernel
theorem dX3_init_64 : decode cX3_init 64 = .ok (.bipush 8, 2) := by decide +kernel
theorem dX3_init_66 : decode cX3_init 66 = .ok (.newarray .int, 2) := by decide +kernel
theorem dX3_init_68 : decode cX3_init 68 = .ok (.putfield 36, 3) := by decide +kernel
theorem dX3_init_71 : decode cX3_init 71 = .ok (.aload_n 0, 1) := by decide +kernel
theorem dX3_init_72 : decode cX3_init 72 = .ok (.iconst (-1), 1) := by decide +kernel
theorem dX3_init_73 : decode cX3_init 73 = .ok (.putfield 39, 3) := by decide +kernel
theorem dX3_init_76 : decode cX3_init 76 = .ok (.aload_n 0, 1) := by decide +kernel
theorem dX3_init_77 : decode cX3_init 77 = .ok (.aload_n 1, 1) := by decide +kernel
theorem dX3_init_78 : decode cX3_init 78 = .ok (.putfield 43, 3) := by decide +kernel
theorem dX3_init_81 : decode cX3_init 81 = .ok (.return_, 1) := by decide +kernel
theorem dX3_makeStale_0 : decode cX3_makeStale 0 = .ok (.aload_n 0, 1) := by decide +kernel
theorem dX3_makeStale_1 : decode cX3_makeStale 1 = .ok (.iconst (-1), 1) := by decide +kernel
theorem dX3_makeStale_2 : decode cX3_makeStale 2 = .ok (.putfield 39, 3) := by decide +kernel
theorem dX3_makeStale_5 : decode cX3_makeStale 5 = .ok (.aload_n 0, 1) := by decide +kernel
theorem dX3_makeStale_6 : decode cX3_makeStale 6 = .ok (.iconst 0, 1) := by decide +kernel
theorem dX3_makeStale_7 : decode cX3_makeStale 7 = .ok (.putfield 47, 3) := by decide +kernel
theorem dX3_makeStale_10 : decode cX3_makeStale 10 = .ok (.return_, 1) := by decide +kernel
set_option maxRecDepth 20000 in
theorem ggX3_fewest_X3_goForward : GoodIn wsX3_fewest wsX3_goForward := goodIn_r _ [7, 8, 9, 10, 2, 11, 1, 12, 13, 14, 15, 16, 17, 18, 19, 20, 21, 22, 6, 23, 24, 25, 26, 27, 28, 29, 30, 31, 32, 33, 34, 35, 36, 37, 38, 39, 40, 41, 42, 43, 44, 45, 46, 47, 48, 49, 50, 51, 52, 53, 54, 55, 56, 57, 58, 59, 60, 61, 62, 63, 64, 65, 66, 67, 68, 69, 70, 71, 72, 73, 74, 75, 76, 77, 78, 79, 80, 81, 82, 83, 84, 85, 86, 87, 88, 89, 90, 91, 92, 93, 94, 95, 96, 97, 98, 99, 100, 101, 102] (by decide +kernel) (by decide +kernel)
set_option maxRecDepth 20000 in
theorem gX3_fewest_X3_goForward : GoodIn wsX3_fewest (wsV RX3 51 RX3 yX3_goForward wsX3_goForward) := goodIn_app (goodIn_of _ (by decide +kernel)) ggX3_fewest_X3_goForward
theorem dX3_fewest_0 : decode cX3_fewest 0 = .ok (.aload_n 0, 1) := by decide +kernel
theorem dX3_fewest_1 : decode cX3_fewest 1 = .ok (.aload_n 1, 1) := by decide +kernel
theorem dX3_fewest_2 : decode cX3_fewest 2 = .ok (.iload_n 2, 1) := by decide +kernel
theorem dX3_fewest_3 : decode cX3_fewest 3 = .ok (.invokevirtual 51, 3) := by decide +kernel
theorem dX3_fewest_6 : decode cX3_fewest 6 = .ok (.aload_n 0, 1) := by decide +kernel
theorem dX3_fewest_7 : decode cX3_fewest 7 = .ok (.getfield 55, 3) := by decide +kernel
theorem dX3_fewest_10 : decode cX3_fewest 10 = .ok (.ldc 58, 2) := by decide +kernel
theorem dX3_fewest_12 : decode cX3_fewest 12 = .ok (.if_icmp .ne 7, 3) := by decide +kernel
theorem dX3_fewest_15 : decode cX3_fewest 15 = .ok (.iconst (-1), 1) := by decide +kernel
theorem dX3_fewest_16 : decode cX3_fewest 16 = .ok (.goto 10, 3) := by decide +kernel
theorem dX3_fewest_19 : decode cX3_fewest 19 = .ok (.aload_n 0, 1) := by decide +kernel
theorem dX3_fewest_20 : decode cX3_fewest 20 = .ok (.getfield 55, 3) := by decide +kernel
theorem dX3_fewest_23 : decode cX3_fewest 23 = .ok (.bipush 20, 2) := by decide +kernel
theorem dX3_fewest_25 : decode cX3_fewest 25 = .ok (.ishr, 1) := by decide +kernel
theorem dX3_fewest_26 : decode cX3_fewest 26 = .ok (.ireturn, 1) := by decide +kernel
set_option maxRecDepth 20000 in
theorem ggX3_ways_X3_goForward : GoodIn wsX3_ways wsX3_goForward := goodIn_r _ [8, 9, 10, 11, 2, 12, 1, 13, 14, 15, 16, 17, 18, 19, 20, 21, 22, 23, 7, 24, 25, 26, 27, 28, 29, 30, 31, 32, 33, 34, 35, 36, 37, 38, 39, 40, 41, 42, 43, 44, 45, 46, 47, 48, 49, 50, 51, 52, 53, 54, 55, 56, 57, 58, 59, 60, 61, 62, 63, 64, 65, 66, 3, 67, 68, 69, 70, 71, 72, 73, 74, 75, 76, 77, 78, 79, 80, 81, 82, 83, 84, 85, 86, 87, 88, 89, 90, 91, 92, 93, 94, 95, 96, 97, 98, 99, 100, 101, 102] (by decide +kernel) (by decide +kernel)
set_option maxRecDepth 20000 in
theorem gX3_ways_X3_goForward : GoodIn wsX3_ways (wsV RX3 51 RX3 yX3_goForward wsX3_goForward) := goodIn_app (goodIn_of _ (by decide +kernel)) ggX3_ways_X3_goForward
theorem dX3_ways_0 : decode cX3_ways 0 = .ok (.aload_n 0, 1) := by decide +kernel
theorem dX3_ways_1 : decode cX3_ways 1 = .ok (.aload_n 1, 1) := by decide +kernel
theorem dX3_ways_2 : decode cX3_ways 2 = .ok (.iconst 0, 1) := by decide +kernel
theorem dX3_ways_3 : decode cX3_ways 3 = .ok (.invokevirtual 51, 3) := by decide +kernel
theorem dX3_ways_6 : decode cX3_ways 6 = .ok (.aload_n 0, 1) := by decide +kernel
theorem dX3_ways_7 : decode cX3_ways 7 = .ok (.getfield 55, 3) := by decide +kernel
theorem dX3_ways_10 : decode cX3_ways 10 = .ok (.ldc 58, 2) := by decide +kernel
theorem dX3_ways_12 : decode cX3_ways 12 = .ok (.if_icmp .ne 7, 3) := by decide +kernel
theorem dX3_ways_15 : decode cX3_ways 15 = .ok (.iconst 0, 1) := by decide +kernel
theorem dX3_ways_16 : decode cX3_ways 16 = .ok (.goto 10, 3) := by decide +kernel
theorem dX3_ways_19 : decode cX3_ways 19 = .ok (.aload_n 0, 1) := by decide +kernel
theorem dX3_ways_20 : decode cX3_ways 20 = .ok (.getfield 55, 3) := by decide +kernel
theorem dX3_ways_23 : decode cX3_ways 23 = .ok (.ldc 59, 2) := by decide +kernel
theorem dX3_ways_25 : decode cX3_ways 25 = .ok (.iand, 1) := by decide +kernel
theorem dX3_ways_26 : decode cX3_ways 26 = .ok (.ireturn, 1) := by decide +kernel
set_option maxRecDepth 20000 in
theorem ggX3_stuckAt_X3_goForward : GoodIn wsX3_stuckAt wsX3_goForward := goodIn_r _ [6, 7, 8, 9, 10, 1, 11, 12, 13, 14, 15, 16, 17, 18, 19, 20, 21, 22, 5, 23, 24, 25, 26, 27, 28, 29, 30, 31, 32, 33, 34, 35, 36, 37, 38, 39, 40, 41, 42, 43, 44, 45, 46, 47, 48, 49, 50, 51, 52, 53, 54, 55, 56, 57, 58, 59, 60, 61, 62, 63, 64, 65, 66, 67, 68, 69, 70, 71, 72, 73, 74, 75, 76, 77, 78, 79, 80, 81, 82, 83, 88, 89, 90, 91, 92, 93, 94, 95, 96, 97, 98, 99, 84, 85, 86, 87, 100, 101, 102] (by decide +kernel) (by decide +kernel)
set_option maxRecDepth 20000 in
theorem gX3_stuckAt_X3_goForward : GoodIn wsX3_stuckAt (wsV RX3 51 RX3 yX3_goForward wsX3_goForward) := goodIn_app (goodIn_of _ (by decide +kernel)) ggX3_stuckAt_X3_goForward
theorem dX3_stuckAt_0 : decode cX3_stuckAt 0 = .ok (.aload_n 0, 1) := by decide +kernel
theorem dX3_stuckAt_1 : decode cX3_stuckAt 1 = .ok (.aload_n 1, 1) := by decide +kernel
theorem dX3_stuckAt_2 : decode cX3_stuckAt 2 = .ok (.iconst 0, 1) := by decide +kernel
theorem dX3_stuckAt_3 : decode cX3_stuckAt 3 = .ok (.invokevirtual 51, 3) := by decide +kernel
theorem dX3_stuckAt_6 : decode cX3_stuckAt 6 = .ok (.iconst 0, 1) := by decide +kernel
theorem dX3_stuckAt_7 : decode cX3_stuckAt 7 = .ok (.istore_n 2, 1) := by decide +kernel
theorem dX3_stuckAt_8 : decode cX3_stuckAt 8 = .ok (.iload_n 2, 1) := by decide +kernel
theorem dX3_stuckAt_9 : decode cX3_stuckAt 9 = .ok (.aload_n 1, 1) := by decide +kernel
theorem dX3_stuckAt_10 : decode cX3_stuckAt 10 = .ok (.getfield 60, 3) := by decide +kernel
theorem dX3_stuckAt_13 : decode cX3_stuckAt 13 = .ok (.if_icmp .ge 20, 3) := by decide +kernel
theorem dX3_stuckAt_16 : decode cX3_stuckAt 16 = .ok (.aload_n 0, 1) := by decide +kernel
theorem dX3_stuckAt_17 : decode cX3_stuckAt 17 = .ok (.getfield 33, 3) := by decide +kernel
theorem dX3_stuckAt_20 : decode cX3_stuckAt 20 = .ok (.iload_n 2, 1) := by decide +kernel
theorem dX3_stuckAt_21 : decode cX3_stuckAt 21 = .ok (.iaload, 1) := by decide +kernel
theorem dX3_stuckAt_22 : decode cX3_stuckAt 22 = .ok (.ifCond .ne 5, 3) := by decide +kernel
theorem dX3_stuckAt_25 : decode cX3_stuckAt 25 = .ok (.iload_n 2, 1) := by decide +kernel
theorem dX3_stuckAt_26 : decode cX3_stuckAt 26 = .ok (.ireturn, 1) := by decide +kernel
theorem dX3_stuckAt_27 : decode cX3_stuckAt 27 = .ok (.iinc 2 1, 3) := by decide +kernel
theorem dX3_stuckAt_30 : decode cX3_stuckAt 30 = .ok (.goto (-22), 3) := by decide +kernel
theorem dX3_stuckAt_33 : decode cX3_stuckAt 33 = .ok (.iconst (-1), 1) := by decide +kernel
theorem dX3_stuckAt_34 : decode cX3_stuckAt 34 = .ok (.ireturn, 1) := by decide +kernel
set_option maxRecDepth 20000 in
theorem ggX3_howManyReached_X3_goForward : GoodIn wsX3_howManyReached wsX3_goForward := goodIn_r _ [6, 7, 8, 9, 10, 1, 11, 12, 13, 14, 15, 16, 17, 18, 19, 20, 21, 22, 5, 23, 24, 25, 26, 27, 28, 29, 30, 31, 32, 33, 34, 35, 36, 37, 38, 39, 40, 41, 42, 43, 44, 45, 46, 47, 48, 49, 50, 51, 52, 53, 54, 55, 56, 57, 58, 59, 60, 61, 62, 63, 64, 65, 66, 67, 68, 69, 70, 71, 72, 73, 74, 75, 76, 77, 78, 79, 80, 81, 82, 83, 90, 91, 92, 93, 94, 95, 96, 97, 98, 99, 100, 101, 102, 103, 104, 105, 106, 107, 108] (by decide +kernel) (by decide +kernel)
set_option maxRecDepth 20000 in
theorem gX3_howManyReached_X3_goForward : GoodIn wsX3_howManyReached (wsV RX3 51 RX3 yX3_goForward wsX3_goForward) := goodIn_app (goodIn_of _ (by decide +kernel)) ggX3_howManyReached_X3_goForward
set_option maxRecDepth 20000 in
theorem ggX3_howManyReached_X2_has : GoodIn wsX3_howManyReached wsX2_has := goodIn_r _ [88, 89, 102, 103, 104, 105] (by decide +kernel) (by decide +kernel)
set_option maxRecDepth 20000 in
theorem gX3_howManyReached_X2_has : GoodIn wsX3_howManyReached (wsV RX3 65 RX2 yX2_has wsX2_has) := goodIn_app (goodIn_of _ (by decide +kernel)) ggX3_howManyReached_X2_has
theorem dX3_howManyReached_0 : decode cX3_howManyReached 0 = .ok (.aload_n 0, 1) := by decide +kernel
theorem dX3_howManyReached_1 : decode cX3_howManyReached 1 = .ok (.aload_n 1, 1) := by decide +kernel
theorem dX3_howManyReached_2 : decode cX3_howManyReached 2 = .ok (.iconst 0, 1) := by decide +kernel
theorem dX3_howManyReached_3 : decode cX3_howManyReached 3 = .ok (.invokevirtual 51, 3) := by decide +kernel
theorem dX3_howManyReached_6 : decode cX3_howManyReached 6 = .ok (.aload_n 1, 1) := by decide +kernel
theorem dX3_howManyReached_7 : decode cX3_howManyReached 7 = .ok (.iload_n 2, 1) := by decide +kernel
theorem dX3_howManyReached_8 : decode cX3_howManyReached 8 = .ok (.invokevirtual 65, 3) := by decide +kernel
theorem dX3_howManyReached_11 : decode cX3_howManyReached 11 = .ok (.ifCond .eq 12, 3) := by decide +kernel
theorem dX3_howManyReached_14 : decode cX3_howManyReached 14 = .ok (.aload_n 0, 1) := by decide +kernel
theorem dX3_howManyReached_15 : decode cX3_howManyReached 15 = .ok (.getfield 33, 3) := by decide +kernel
theorem dX3_howManyReached_18 : decode cX3_howManyReached 18 = .ok (.iload_n 2, 1) := by decide +kernel
theorem dX3_howManyReached_19 : decode cX3_howManyReached 19 = .ok (.iaload, 1) := by decide +kernel
theorem dX3_howManyReached_20 : decode cX3_howManyReached 20 = .ok (.goto 4, 3) := by decide +kernel
theorem dX3_howManyReached_23 : decode cX3_howManyReached 23 = .ok (.iconst 0, 1) := by decide +kernel
theorem dX3_howManyReached_24 : decode cX3_howManyReached 24 = .ok (.ireturn, 1) := by decide +kernel
set_option maxRecDepth 20000 in
theorem ggX3_bestSetting_X3_findBest : GoodIn wsX3_bestSetting wsX3_findBest := goodIn_r _ [6, 7, 8, 9, 10, 11, 12, 5, 13, 14, 15, 16, 17, 18, 19, 20, 21, 22, 23, 24, 25, 26, 27, 28, 29, 30, 31, 32, 33, 34, 35, 36, 37, 38, 39, 40, 41, 42, 43, 44, 45, 46, 47, 48, 49, 50, 51, 52, 53, 54, 55, 56, 57, 58, 59, 60, 61, 62, 63, 64, 65, 66, 67, 68, 69, 70, 71, 72, 73, 74, 75, 76, 77, 78, 79, 80, 1, 81, 82, 83, 84, 85, 86, 87, 88, 89, 90, 101, 102, 103, 104, 105, 106, 107, 108, 109, 110, 111, 112, 113, 114, 115, 116, 117, 118, 119] (by decide +kernel) (by decide +kernel)
set_option maxRecDepth 20000 in
theorem gX3_bestSetting_X3_findBest : GoodIn wsX3_bestSetting (wsV RX3 69 RX3 yX3_findBest wsX3_findBest) := goodIn_app (goodIn_of _ (by decide +kernel)) ggX3_bestSetting_X3_findBest
set_option maxRecDepth 20000 in
theorem ggX3_bestSetting_X2_has : GoodIn wsX3_bestSetting wsX2_has := goodIn_r _ [95, 96, 113, 114, 115, 116] (by decide +kernel) (by decide +kernel)
set_option maxRecDepth 20000 in
theorem gX3_bestSetting_X2_has : GoodIn wsX3_bestSetting (wsV RX3 65 RX2 yX2_has wsX2_has) := goodIn_app (goodIn_of _ (by decide +kernel)) ggX3_bestSetting_X2_has
set_option maxRecDepth 20000 in
theorem ggX3_bestSetting_X7_numberOf : GoodIn wsX3_bestSetting wsX7_numberOf := goodIn_r _ [99, 100, 58, 19, 59] (by decide +kernel) (by decide +kernel)
set_option maxRecDepth 20000 in
theorem gX3_bestSetting_X7_numberOf : GoodIn wsX3_bestSetting (va_wsS RX3 73 yX7_numberOf wsX7_numberOf) := goodIn_app (goodIn_of _ (by decide +kernel)) ggX3_bestSetting_X7_numberOf
theorem dX3_bestSetting_0 : decode cX3_bestSetting 0 = .ok (.aload_n 0, 1) := by decide +kernel
theorem dX3_bestSetting_1 : decode cX3_bestSetting 1 = .ok (.aload_n 1, 1) := by decide +kernel
theorem dX3_bestSetting_2 : decode cX3_bestSetting 2 = .ok (.invokevirtual 69, 3) := by decide +kernel
theorem dX3_bestSetting_5 : decode cX3_bestSetting 5 = .ok (.aload_n 1, 1) := by decide +kernel
theorem dX3_bestSetting_6 : decode cX3_bestSetting 6 = .ok (.iload_n 2, 1) := by decide +kernel
theorem dX3_bestSetting_7 : decode cX3_bestSetting 7 = .ok (.invokevirtual 65, 3) := by decide +kernel
theorem dX3_bestSetting_10 : decode cX3_bestSetting 10 = .ok (.ifCond .eq 17, 3) := by decide +kernel
theorem dX3_bestSetting_13 : decode cX3_bestSetting 13 = .ok (.aload_n 0, 1) := by decide +kernel
theorem dX3_bestSetting_14 : decode cX3_bestSetting 14 = .ok (.getfield 36, 3) := by decide +kernel
theorem dX3_bestSetting_17 : decode cX3_bestSetting 17 = .ok (.iload_n 2, 1) := by decide +kernel
theorem dX3_bestSetting_18 : decode cX3_bestSetting 18 = .ok (.iaload, 1) := by decide +kernel
theorem dX3_bestSetting_19 : decode cX3_bestSetting 19 = .ok (.iconst (-1), 1) := by decide +kernel
theorem dX3_bestSetting_20 : decode cX3_bestSetting 20 = .ok (.if_icmp .eq 7, 3) := by decide +kernel
theorem dX3_bestSetting_23 : decode cX3_bestSetting 23 = .ok (.iconst 1, 1) := by decide +kernel
theorem dX3_bestSetting_24 : decode cX3_bestSetting 24 = .ok (.goto 4, 3) := by decide +kernel
theorem dX3_bestSetting_27 : decode cX3_bestSetting 27 = .ok (.iconst 0, 1) := by decide +kernel
theorem dX3_bestSetting_28 : decode cX3_bestSetting 28 = .ok (.istore_n 3, 1) := by decide +kernel
theorem dX3_bestSetting_29 : decode cX3_bestSetting 29 = .ok (.iload_n 3, 1) := by decide +kernel
theorem dX3_bestSetting_30 : decode cX3_bestSetting 30 = .ok (.ifCond .eq 15, 3) := by decide +kernel
theorem dX3_bestSetting_33 : decode cX3_bestSetting 33 = .ok (.aload_n 0, 1) := by decide +kernel
theorem dX3_bestSetting_34 : decode cX3_bestSetting 34 = .ok (.getfield 36, 3) := by decide +kernel
theorem dX3_bestSetting_37 : decode cX3_bestSetting 37 = .ok (.iload_n 2, 1) := by decide +kernel
theorem dX3_bestSetting_38 : decode cX3_bestSetting 38 = .ok (.iaload, 1) := by decide +kernel
theorem dX3_bestSetting_39 : decode cX3_bestSetting 39 = .ok (.invokestatic 73, 3) := by decide +kernel
theorem dX3_bestSetting_42 : decode cX3_bestSetting 42 = .ok (.goto 4, 3) := by decide +kernel
theorem dX3_bestSetting_45 : decode cX3_bestSetting 45 = .ok (.iconst (-1), 1) := by decide +kernel
theorem dX3_bestSetting_46 : decode cX3_bestSetting 46 = .ok (.ireturn, 1) := by decide +kernel
set_option maxRecDepth 20000 in
theorem ggX3_bestBegin_X3_findBest : GoodIn wsX3_bestBegin wsX3_findBest := goodIn_r _ [6, 7, 8, 1, 9, 10, 11, 5, 12, 13, 14, 15, 16, 17, 18, 19, 20, 21, 22, 23, 24, 25, 26, 27, 28, 29, 30, 31, 32, 33, 34, 35, 36, 37, 38, 39, 40, 41, 42, 43, 44, 45, 46, 47, 48, 49, 50, 51, 52, 53, 54, 55, 56, 57, 58, 59, 60, 61, 62, 63, 64, 65, 66, 67, 68, 69, 70, 71, 72, 73, 74, 75, 76, 77, 78, 79, 80, 81, 82, 83, 84, 85, 86, 87, 88, 89, 90, 95, 96, 97, 98, 99, 100, 101, 102, 103, 104, 105, 106, 107, 108, 109, 110, 111, 112, 113] (by decide +kernel) (by decide +kernel)
set_option maxRecDepth 20000 in
theorem gX3_bestBegin_X3_findBest : GoodIn wsX3_bestBegin (wsV RX3 69 RX3 yX3_findBest wsX3_findBest) := goodIn_app (goodIn_of _ (by decide +kernel)) ggX3_bestBegin_X3_findBest
set_option maxRecDepth 20000 in
theorem ggX3_bestBegin_X7_numberOf : GoodIn wsX3_bestBegin wsX7_numberOf := goodIn_r _ [93, 94, 57, 18, 58] (by decide +kernel) (by decide +kernel)
set_option maxRecDepth 20000 in
theorem gX3_bestBegin_X7_numberOf : GoodIn wsX3_bestBegin (va_wsS RX3 73 yX7_numberOf wsX7_numberOf) := goodIn_app (goodIn_of _ (by decide +kernel)) ggX3_bestBegin_X7_numberOf
theorem dX3_bestBegin_0 : decode cX3_bestBegin 0 = .ok (.aload_n 0, 1) := by decide +kernel
theorem dX3_bestBegin_1 : decode cX3_bestBegin 1 = .ok (.aload_n 1, 1) := by decide +kernel
theorem dX3_bestBegin_2 : decode cX3_bestBegin 2 = .ok (.invokevirtual 69, 3) := by decide +kernel
theorem dX3_bestBegin_5 : decode cX3_bestBegin 5 = .ok (.aload_n 0, 1) := by decide +kernel
theorem dX3_bestBegin_6 : decode cX3_bestBegin 6 = .ok (.getfield 79, 3) := by decide +kernel
theorem dX3_bestBegin_9 : decode cX3_bestBegin 9 = .ok (.iconst (-1), 1) := by decide +kernel
theorem dX3_bestBegin_10 : decode cX3_bestBegin 10 = .ok (.if_icmp .ne 7, 3) := by decide +kernel
theorem dX3_bestBegin_13 : decode cX3_bestBegin 13 = .ok (.iconst (-1), 1) := by decide +kernel
theorem dX3_bestBegin_14 : decode cX3_bestBegin 14 = .ok (.goto 10, 3) := by decide +kernel
theorem dX3_bestBegin_17 : decode cX3_bestBegin 17 = .ok (.aload_n 0, 1) := by decide +kernel
theorem dX3_bestBegin_18 : decode cX3_bestBegin 18 = .ok (.getfield 79, 3) := by decide +kernel
theorem dX3_bestBegin_21 : decode cX3_bestBegin 21 = .ok (.invokestatic 73, 3) := by decide +kernel
theorem dX3_bestBegin_24 : decode cX3_bestBegin 24 = .ok (.ireturn, 1) := by decide +kernel
set_option maxRecDepth 20000 in
theorem ggX3_goForward_J7_fill_53178 : GoodIn wsX3_goForward wsJ7_fill_53178 := goodIn_r _ [10] (by decide +kernel) (by decide +kernel)
set_option maxRecDepth 20000 in
theorem gX3_goForward_J7_fill_53178 : GoodIn wsX3_goForward (va_wsS RX3 82 yJ7_fill_53178 wsJ7_fill_53178) := goodIn_app (goodIn_of _ (by decide +kernel)) ggX3_goForward_J7_fill_53178
set_option maxRecDepth 20000 in
theorem ggX3_goForward_X7_isSetting : GoodIn wsX3_goForward wsX7_isSetting := goodIn_r _ [14] (by decide +kernel) (by decide +kernel)
set_option maxRecDepth 20000 in
theorem gX3_goForward_X7_isSetting : GoodIn wsX3_goForward (va_wsS RX3 89 yX7_isSetting wsX7_isSetting) := goodIn_app (goodIn_of _ (by decide +kernel)) ggX3_goForward_X7_isSetting
set_option maxRecDepth 20000 in
theorem ggX3_goForward_X3_setGapAheadOf : GoodIn wsX3_goForward wsX3_setGapAheadOf := goodIn_r _ [19, 20, 21, 22, 23, 24, 25, 26, 27, 28, 29, 30, 31, 32, 33, 34, 13, 35, 36, 92, 93, 94, 95, 80, 81, 82, 83, 84, 85, 86, 87, 88, 89, 90, 91, 96, 97] (by decide +kernel) (by decide +kernel)
set_option maxRecDepth 20000 in
theorem gX3_goForward_X3_setGapAheadOf : GoodIn wsX3_goForward (wsV RX3 92 RX3 yX3_setGapAheadOf wsX3_setGapAheadOf) := goodIn_app (goodIn_of _ (by decide +kernel)) ggX3_goForward_X3_setGapAheadOf
set_option maxRecDepth 20000 in
theorem ggX3_goForward_X8_raised : GoodIn wsX3_goForward wsX8_raised := goodIn_r _ [25] (by decide +kernel) (by decide +kernel)
set_option maxRecDepth 20000 in
theorem gX3_goForward_X8_raised_n102 : GoodIn wsX3_goForward (wsX8_raised) := ggX3_goForward_X8_raised
set_option maxRecDepth 20000 in
theorem ggX3_goForward_X3_cross : GoodIn wsX3_goForward wsX3_cross := goodIn_r _ [40, 20, 41, 42, 43, 44, 45, 46, 4, 47, 48, 49, 18, 50, 51, 52, 53, 13, 54, 55, 56, 57, 29, 58, 32, 59, 60, 61, 62, 63, 64, 65, 66, 67, 68, 69, 70, 71, 72, 73, 80, 81, 82, 83, 84, 85, 86, 87, 88, 89, 90, 91, 96, 97, 98] (by decide +kernel) (by decide +kernel)
set_option maxRecDepth 20000 in
theorem gX3_goForward_X3_cross : GoodIn wsX3_goForward (wsV RX3 106 RX3 yX3_cross wsX3_cross) := goodIn_app (goodIn_of _ (by decide +kernel)) ggX3_goForward_X3_cross
set_option maxRecDepth 20000 in
theorem ggX3_goForward_X3_howManyScored : GoodIn wsX3_goForward wsX3_howManyScored := goodIn_r _ [76, 4] (by decide +kernel) (by decide +kernel)
set_option maxRecDepth 20000 in
theorem gX3_goForward_X3_howManyScored : GoodIn wsX3_goForward (va_wsS RX3 110 yX3_howManyScored wsX3_howManyScored) := goodIn_app (goodIn_of _ (by decide +kernel)) ggX3_goForward_X3_howManyScored
set_option maxRecDepth 20000 in
theorem ggX3_goForward_X3_bestScore : GoodIn wsX3_goForward wsX3_bestScore := goodIn_r _ [79, 4, 59, 60, 18, 61, 62, 63, 64] (by decide +kernel) (by decide +kernel)
set_option maxRecDepth 20000 in
theorem gX3_goForward_X3_bestScore : GoodIn wsX3_goForward (va_wsS RX3 114 yX3_bestScore wsX3_bestScore) := goodIn_app (goodIn_of _ (by decide +kernel)) ggX3_goForward_X3_bestScore
theorem dX3_goForward_0 : decode cX3_goForward 0 = .ok (.aload_n 0, 1) := by decide +kernel
theorem dX3_goForward_1 : decode cX3_goForward 1 = .ok (.getfield 39, 3) := by decide +kernel
theorem dX3_goForward_4 : decode cX3_goForward 4 = .ok (.iload_n 2, 1) := by decide +kernel
theorem dX3_goForward_5 : decode cX3_goForward 5 = .ok (.if_icmp .ne 4, 3) := by decide +kernel
theorem dX3_goForward_8 : decode cX3_goForward 8 = .ok (.return_, 1) := by decide +kernel
theorem dX3_goForward_9 : decode cX3_goForward 9 = .ok (.aload_n 0, 1) := by decide +kernel
theorem dX3_goForward_10 : decode cX3_goForward 10 = .ok (.getfield 18, 3) := by decide +kernel
theorem dX3_goForward_13 : decode cX3_goForward 13 = .ok (.astore_n 3, 1) := by decide +kernel
theorem dX3_goForward_14 : decode cX3_goForward 14 = .ok (.aload_n 0, 1) := by decide +kernel
theorem dX3_goForward_15 : decode cX3_goForward 15 = .ok (.getfield 22, 3) := by decide +kernel
theorem dX3_goForward_18 : decode cX3_goForward 18 = .ok (.astore 4, 2) := by decide +kernel
theorem dX3_goForward_20 : decode cX3_goForward 20 = .ok (.aload_n 3, 1) := by decide +kernel
theorem dX3_goForward_21 : decode cX3_goForward 21 = .ok (.ldc 58, 2) := by decide +kernel
theorem dX3_goForward_23 : decode cX3_goForward 23 = .ok (.invokestatic 82, 3) := by decide +kernel
theorem dX3_goForward_26 : decode cX3_goForward 26 = .ok (.aload_n 1, 1) := by decide +kernel
theorem dX3_goForward_27 : decode cX3_goForward 27 = .ok (.getfield 88, 3) := by decide +kernel
theorem dX3_goForward_30 : decode cX3_goForward 30 = .ok (.invokestatic 89, 3) := by decide +kernel
theorem dX3_goForward_33 : decode cX3_goForward 33 = .ok (.ifCond .eq 10, 3) := by decide +kernel
theorem dX3_goForward_36 : decode cX3_goForward 36 = .ok (.aload_n 3, 1) := by decide +kernel
theorem dX3_goForward_37 : decode cX3_goForward 37 = .ok (.aload_n 1, 1) := by decide +kernel
theorem dX3_goForward_38 : decode cX3_goForward 38 = .ok (.getfield 88, 3) := by decide +kernel
theorem dX3_goForward_41 : decode cX3_goForward 41 = .ok (.iconst 1, 1) := by decide +kernel
theorem dX3_goForward_42 : decode cX3_goForward 42 = .ok (.iastore, 1) := by decide +kernel
theorem dX3_goForward_43 : decode cX3_goForward 43 = .ok (.iconst 0, 1) := by decide +kernel
theorem dX3_goForward_44 : decode cX3_goForward 44 = .ok (.istore 5, 2) := by decide +kernel
theorem dX3_goForward_46 : decode cX3_goForward 46 = .ok (.iload 5, 2) := by decide +kernel
theorem dX3_goForward_48 : decode cX3_goForward 48 = .ok (.aload_n 1, 1) := by decide +kernel
theorem dX3_goForward_49 : decode cX3_goForward 49 = .ok (.getfield 60, 3) := by decide +kernel
theorem dX3_goForward_52 : decode cX3_goForward 52 = .ok (.if_icmp .ge 65, 3) := by decide +kernel
theorem dX3_goForward_55 : decode cX3_goForward 55 = .ok (.aload_n 0, 1) := by decide +kernel
theorem dX3_goForward_56 : decode cX3_goForward 56 = .ok (.aload_n 1, 1) := by decide +kernel
theorem dX3_goForward_57 : decode cX3_goForward 57 = .ok (.iload 5, 2) := by decide +kernel
theorem dX3_goForward_59 : decode cX3_goForward 59 = .ok (.iload_n 2, 1) := by decide +kernel
theorem dX3_goForward_60 : decode cX3_goForward 60 = .ok (.invokevirtual 92, 3) := by decide +kernel
theorem dX3_goForward_63 : decode cX3_goForward 63 = .ok (.aload_n 0, 1) := by decide +kernel
theorem dX3_goForward_64 : decode cX3_goForward 64 = .ok (.aload_n 3, 1) := by decide +kernel
theorem dX3_goForward_65 : decode cX3_goForward 65 = .ok (.aload 4, 2) := by decide +kernel
theorem dX3_goForward_67 : decode cX3_goForward 67 = .ok (.aload_n 1, 1) := by decide +kernel
theorem dX3_goForward_68 : decode cX3_goForward 68 = .ok (.getfield 96, 3) := by decide +kernel
theorem dX3_goForward_71 : decode cX3_goForward 71 = .ok (.iload 5, 2) := by decide +kernel
theorem dX3_goForward_73 : decode cX3_goForward 73 = .ok (.iaload, 1) := by decide +kernel
theorem dX3_goForward_74 : decode cX3_goForward 74 = .ok (.aload_n 1, 1) := by decide +kernel
theorem dX3_goForward_75 : decode cX3_goForward 75 = .ok (.getfield 99, 3) := by decide +kernel
theorem dX3_goForward_78 : decode cX3_goForward 78 = .ok (.iload 5, 2) := by decide +kernel
theorem dX3_goForward_80 : decode cX3_goForward 80 = .ok (.iaload, 1) := by decide +kernel
theorem dX3_goForward_81 : decode cX3_goForward 81 = .ok (.iload_n 2, 1) := by decide +kernel
theorem dX3_goForward_82 : decode cX3_goForward 82 = .ok (.invokestatic 102, 3) := by decide +kernel
theorem dX3_goForward_85 : decode cX3_goForward 85 = .ok (.iconst 1, 1) := by decide +kernel
theorem dX3_goForward_86 : decode cX3_goForward 86 = .ok (.invokevirtual 106, 3) := by decide +kernel
theorem dX3_goForward_89 : decode cX3_goForward 89 = .ok (.aload_n 0, 1) := by decide +kernel
theorem dX3_goForward_90 : decode cX3_goForward 90 = .ok (.getfield 33, 3) := by decide +kernel
theorem dX3_goForward_93 : decode cX3_goForward 93 = .ok (.iload 5, 2) := by decide +kernel
theorem dX3_goForward_95 : decode cX3_goForward 95 = .ok (.aload 4, 2) := by decide +kernel
theorem dX3_goForward_97 : decode cX3_goForward 97 = .ok (.invokestatic 110, 3) := by decide +kernel
theorem dX3_goForward_100 : decode cX3_goForward 100 = .ok (.iastore, 1) := by decide +kernel
theorem dX3_goForward_101 : decode cX3_goForward 101 = .ok (.aload_n 3, 1) := by decide +kernel
theorem dX3_goForward_102 : decode cX3_goForward 102 = .ok (.astore 6, 2) := by decide +kernel
theorem dX3_goForward_104 : decode cX3_goForward 104 = .ok (.aload 4, 2) := by decide +kernel
theorem dX3_goForward_106 : decode cX3_goForward 106 = .ok (.astore_n 3, 1) := by decide +kernel
theorem dX3_goForward_107 : decode cX3_goForward 107 = .ok (.aload 6, 2) := by decide +kernel
theorem dX3_goForward_109 : decode cX3_goForward 109 = .ok (.astore 4, 2) := by decide +kernel
theorem dX3_goForward_111 : decode cX3_goForward 111 = .ok (.iinc 5 1, 3) := by decide +kernel
theorem dX3_goForward_114 : decode cX3_goForward 114 = .ok (.goto (-68), 3) := by decide +kernel
theorem dX3_goForward_117 : decode cX3_goForward 117 = .ok (.aload_n 0, 1) := by decide +kernel
theorem dX3_goForward_118 : decode cX3_goForward 118 = .ok (.aload_n 3, 1) := by decide +kernel
theorem dX3_goForward_119 : decode cX3_goForward 119 = .ok (.invokestatic 114, 3) := by decide +kernel
theorem dX3_goForward_122 : decode cX3_goForward 122 = .ok (.putfield 55, 3) := by decide +kernel
theorem dX3_goForward_125 : decode cX3_goForward 125 = .ok (.aload_n 0, 1) := by decide +kernel
theorem dX3_goForward_126 : decode cX3_goForward 126 = .ok (.iload_n 2, 1) := by decide +kernel
theorem dX3_goForward_127 : decode cX3_goForward 127 = .ok (.putfield 39, 3) := by decide +kernel
theorem dX3_goForward_130 : decode cX3_goForward 130 = .ok (.return_, 1) := by decide +kernel
set_option maxRecDepth 20000 in
theorem ggX3_findBest_X3_goBackward : GoodIn wsX3_findBest wsX3_goBackward := goodIn_r _ [8, 9, 2, 10, 11, 12, 13, 14, 15, 16, 17, 18, 19, 7, 20, 21, 22, 23, 24, 25, 26, 27, 28, 29, 30, 31, 32, 33, 34, 35, 36, 37, 38, 39, 40, 41, 42, 43, 44, 45, 46, 47, 48, 49, 50, 51, 52, 53, 54, 55, 56, 57, 58, 59, 60, 61, 62, 63, 64, 65, 66, 67, 68, 99, 100, 101, 102, 87, 88, 89, 90, 91, 92, 93, 94, 95, 96, 97, 98, 103, 104, 105] (by decide +kernel) (by decide +kernel)
set_option maxRecDepth 20000 in
theorem gX3_findBest_X3_goBackward : GoodIn wsX3_findBest (wsV RX3 117 RX3 yX3_goBackward wsX3_goBackward) := goodIn_app (goodIn_of _ (by decide +kernel)) ggX3_findBest_X3_goBackward
set_option maxRecDepth 20000 in
theorem ggX3_findBest_X3_settingOfBestScore : GoodIn wsX3_findBest wsX3_settingOfBestScore := goodIn_r _ [71] (by decide +kernel) (by decide +kernel)
set_option maxRecDepth 20000 in
theorem gX3_findBest_X3_settingOfBestScore : GoodIn wsX3_findBest (va_wsS RX3 120 yX3_settingOfBestScore wsX3_settingOfBestScore) := goodIn_app (goodIn_of _ (by decide +kernel)) ggX3_findBest_X3_settingOfBestScore
set_option maxRecDepth 20000 in
theorem ggX3_findBest_X3_followBest : GoodIn wsX3_findBest wsX3_followBest := goodIn_r _ [75, 2, 76, 17, 18, 19, 7, 20, 21, 22, 23, 24, 25, 26, 27, 28, 29, 30, 31, 32, 33, 34, 35, 14, 36, 37, 77, 78, 79, 80, 10, 81, 82, 83, 84, 85, 53, 54, 86, 56, 57, 58, 99, 100, 101, 102, 87, 88, 89, 90, 91, 92, 93, 94, 95, 96, 97, 98, 104, 105] (by decide +kernel) (by decide +kernel)
set_option maxRecDepth 20000 in
theorem gX3_findBest_X3_followBest : GoodIn wsX3_findBest (wsV RX3 123 RX3 yX3_followBest wsX3_followBest) := goodIn_app (goodIn_of _ (by decide +kernel)) ggX3_findBest_X3_followBest
theorem dX3_findBest_0 : decode cX3_findBest 0 = .ok (.aload_n 0, 1) := by decide +kernel
theorem dX3_findBest_1 : decode cX3_findBest 1 = .ok (.getfield 47, 3) := by decide +kernel
theorem dX3_findBest_4 : decode cX3_findBest 4 = .ok (.ifCond .ne 42, 3) := by decide +kernel
theorem dX3_findBest_7 : decode cX3_findBest 7 = .ok (.aload_n 0, 1) := by decide +kernel
theorem dX3_findBest_8 : decode cX3_findBest 8 = .ok (.aload_n 1, 1) := by decide +kernel
theorem dX3_findBest_9 : decode cX3_findBest 9 = .ok (.invokevirtual 117, 3) := by decide +kernel
theorem dX3_findBest_12 : decode cX3_findBest 12 = .ok (.aload_n 0, 1) := by decide +kernel
theorem dX3_findBest_13 : decode cX3_findBest 13 = .ok (.aload_n 1, 1) := by decide +kernel
theorem dX3_findBest_14 : decode cX3_findBest 14 = .ok (.getfield 60, 3) := by decide +kernel
theorem dX3_findBest_17 : decode cX3_findBest 17 = .ok (.ifCond .ne 7, 3) := by decide +kernel
theorem dX3_findBest_20 : decode cX3_findBest 20 = .ok (.iconst (-1), 1) := by decide +kernel
theorem dX3_findBest_21 : decode cX3_findBest 21 = .ok (.goto 12, 3) := by decide +kernel
theorem dX3_findBest_24 : decode cX3_findBest 24 = .ok (.aload_n 0, 1) := by decide +kernel
theorem dX3_findBest_25 : decode cX3_findBest 25 = .ok (.getfield 30, 3) := by decide +kernel
theorem dX3_findBest_28 : decode cX3_findBest 28 = .ok (.iconst 0, 1) := by decide +kernel
theorem dX3_findBest_29 : decode cX3_findBest 29 = .ok (.aaload, 1) := by decide +kernel
theorem dX3_findBest_30 : decode cX3_findBest 30 = .ok (.invokestatic 120, 3) := by decide +kernel
theorem dX3_findBest_33 : decode cX3_findBest 33 = .ok (.putfield 79, 3) := by decide +kernel
theorem dX3_findBest_36 : decode cX3_findBest 36 = .ok (.aload_n 0, 1) := by decide +kernel
theorem dX3_findBest_37 : decode cX3_findBest 37 = .ok (.aload_n 1, 1) := by decide +kernel
theorem dX3_findBest_38 : decode cX3_findBest 38 = .ok (.invokevirtual 123, 3) := by decide +kernel
theorem dX3_findBest_41 : decode cX3_findBest 41 = .ok (.aload_n 0, 1) := by decide +kernel
theorem dX3_findBest_42 : decode cX3_findBest 42 = .ok (.iconst 1, 1) := by decide +kernel
theorem dX3_findBest_43 : decode cX3_findBest 43 = .ok (.putfield 47, 3) := by decide +kernel
theorem dX3_findBest_46 : decode cX3_findBest 46 = .ok (.return_, 1) := by decide +kernel
set_option maxRecDepth 20000 in
theorem ggX3_goBackward_X7_fits : GoodIn wsX3_goBackward wsX7_fits := goodIn_r _ [8, 9, 79] (by decide +kernel) (by decide +kernel)
set_option maxRecDepth 20000 in
theorem gX3_goBackward_X7_fits : GoodIn wsX3_goBackward (wsV RX3 126 RX7 yX7_fits wsX7_fits) := goodIn_app (goodIn_of _ (by decide +kernel)) ggX3_goBackward_X7_fits
set_option maxRecDepth 20000 in
theorem ggX3_goBackward_X3_setGapAheadOf : GoodIn wsX3_goBackward wsX3_setGapAheadOf := goodIn_r _ [14, 15, 16, 17, 18, 19, 20, 21, 22, 23, 24, 25, 26, 27, 28, 29, 7, 30, 31, 63, 64, 65, 66, 67, 68, 69, 70, 71, 72, 73, 74, 75, 76, 77, 78, 80, 81] (by decide +kernel) (by decide +kernel)
set_option maxRecDepth 20000 in
theorem gX3_goBackward_X3_setGapAheadOf : GoodIn wsX3_goBackward (wsV RX3 92 RX3 yX3_setGapAheadOf wsX3_setGapAheadOf) := goodIn_app (goodIn_of _ (by decide +kernel)) ggX3_goBackward_X3_setGapAheadOf
set_option maxRecDepth 20000 in
theorem ggX3_goBackward_X3_cross : GoodIn wsX3_goBackward wsX3_cross := goodIn_r _ [35, 15, 36, 37, 38, 39, 40, 1, 3, 41, 42, 43, 13, 44, 45, 46, 47, 7, 48, 49, 50, 51, 24, 52, 27, 53, 54, 55, 56, 57, 58, 4, 5, 6, 8, 9, 59, 60, 61, 62, 67, 68, 69, 70, 71, 72, 73, 74, 75, 76, 77, 78, 80, 81, 79] (by decide +kernel) (by decide +kernel)
set_option maxRecDepth 20000 in
theorem gX3_goBackward_X3_cross : GoodIn wsX3_goBackward (wsV RX3 106 RX3 yX3_cross wsX3_cross) := goodIn_app (goodIn_of _ (by decide +kernel)) ggX3_goBackward_X3_cross
theorem dX3_goBackward_0 : decode cX3_goBackward 0 = .ok (.aload_n 1, 1) := by decide +kernel
theorem dX3_goBackward_1 : decode cX3_goBackward 1 = .ok (.getfield 60, 3) := by decide +kernel
theorem dX3_goBackward_4 : decode cX3_goBackward 4 = .ok (.iconst 1, 1) := by decide +kernel
theorem dX3_goBackward_5 : decode cX3_goBackward 5 = .ok (.isub, 1) := by decide +kernel
theorem dX3_goBackward_6 : decode cX3_goBackward 6 = .ok (.istore_n 2, 1) := by decide +kernel
theorem dX3_goBackward_7 : decode cX3_goBackward 7 = .ok (.iload_n 2, 1) := by decide +kernel
theorem dX3_goBackward_8 : decode cX3_goBackward 8 = .ok (.ifCond .ge 4, 3) := by decide +kernel
theorem dX3_goBackward_11 : decode cX3_goBackward 11 = .ok (.return_, 1) := by decide +kernel
theorem dX3_goBackward_12 : decode cX3_goBackward 12 = .ok (.iconst 0, 1) := by decide +kernel
theorem dX3_goBackward_13 : decode cX3_goBackward 13 = .ok (.istore_n 3, 1) := by decide +kernel
theorem dX3_goBackward_14 : decode cX3_goBackward 14 = .ok (.iload_n 3, 1) := by decide +kernel
theorem dX3_goBackward_15 : decode cX3_goBackward 15 = .ok (.sipush 2187, 3) := by decide +kernel
theorem dX3_goBackward_18 : decode cX3_goBackward 18 = .ok (.if_icmp .ge 50, 3) := by decide +kernel
theorem dX3_goBackward_21 : decode cX3_goBackward 21 = .ok (.aload_n 0, 1) := by decide +kernel
theorem dX3_goBackward_22 : decode cX3_goBackward 22 = .ok (.getfield 43, 3) := by decide +kernel
theorem dX3_goBackward_25 : decode cX3_goBackward 25 = .ok (.iload_n 3, 1) := by decide +kernel
theorem dX3_goBackward_26 : decode cX3_goBackward 26 = .ok (.aload_n 1, 1) := by decide +kernel
theorem dX3_goBackward_27 : decode cX3_goBackward 27 = .ok (.getfield 96, 3) := by decide +kernel
theorem dX3_goBackward_30 : decode cX3_goBackward 30 = .ok (.iload_n 2, 1) := by decide +kernel
theorem dX3_goBackward_31 : decode cX3_goBackward 31 = .ok (.iaload, 1) := by decide +kernel
theorem dX3_goBackward_32 : decode cX3_goBackward 32 = .ok (.aload_n 1, 1) := by decide +kernel
theorem dX3_goBackward_33 : decode cX3_goBackward 33 = .ok (.getfield 99, 3) := by decide +kernel
theorem dX3_goBackward_36 : decode cX3_goBackward 36 = .ok (.iload_n 2, 1) := by decide +kernel
theorem dX3_goBackward_37 : decode cX3_goBackward 37 = .ok (.iaload, 1) := by decide +kernel
theorem dX3_goBackward_38 : decode cX3_goBackward 38 = .ok (.invokevirtual 126, 3) := by decide +kernel
theorem dX3_goBackward_41 : decode cX3_goBackward 41 = .ok (.istore 4, 2) := by decide +kernel
theorem dX3_goBackward_43 : decode cX3_goBackward 43 = .ok (.aload_n 0, 1) := by decide +kernel
theorem dX3_goBackward_44 : decode cX3_goBackward 44 = .ok (.getfield 30, 3) := by decide +kernel
theorem dX3_goBackward_47 : decode cX3_goBackward 47 = .ok (.iload_n 2, 1) := by decide +kernel
theorem dX3_goBackward_48 : decode cX3_goBackward 48 = .ok (.aaload, 1) := by decide +kernel
theorem dX3_goBackward_49 : decode cX3_goBackward 49 = .ok (.iload_n 3, 1) := by decide +kernel
theorem dX3_goBackward_50 : decode cX3_goBackward 50 = .ok (.iload 4, 2) := by decide +kernel
theorem dX3_goBackward_52 : decode cX3_goBackward 52 = .ok (.ifCond .eq 7, 3) := by decide +kernel
theorem dX3_goBackward_55 : decode cX3_goBackward 55 = .ok (.iconst 1, 1) := by decide +kernel
theorem dX3_goBackward_56 : decode cX3_goBackward 56 = .ok (.goto 5, 3) := by decide +kernel
theorem dX3_goBackward_59 : decode cX3_goBackward 59 = .ok (.ldc 58, 2) := by decide +kernel
theorem dX3_goBackward_61 : decode cX3_goBackward 61 = .ok (.iastore, 1) := by decide +kernel
theorem dX3_goBackward_62 : decode cX3_goBackward 62 = .ok (.iinc 3 1, 3) := by decide +kernel
theorem dX3_goBackward_65 : decode cX3_goBackward 65 = .ok (.goto (-51), 3) := by decide +kernel
theorem dX3_goBackward_68 : decode cX3_goBackward 68 = .ok (.iload_n 2, 1) := by decide +kernel
theorem dX3_goBackward_69 : decode cX3_goBackward 69 = .ok (.istore_n 3, 1) := by decide +kernel
theorem dX3_goBackward_70 : decode cX3_goBackward 70 = .ok (.iload_n 3, 1) := by decide +kernel
theorem dX3_goBackward_71 : decode cX3_goBackward 71 = .ok (.ifCond .le 51, 3) := by decide +kernel
theorem dX3_goBackward_74 : decode cX3_goBackward 74 = .ok (.aload_n 0, 1) := by decide +kernel
theorem dX3_goBackward_75 : decode cX3_goBackward 75 = .ok (.aload_n 1, 1) := by decide +kernel
theorem dX3_goBackward_76 : decode cX3_goBackward 76 = .ok (.iload_n 3, 1) := by decide +kernel
theorem dX3_goBackward_77 : decode cX3_goBackward 77 = .ok (.iconst 0, 1) := by decide +kernel
theorem dX3_goBackward_78 : decode cX3_goBackward 78 = .ok (.invokevirtual 92, 3) := by decide +kernel
theorem dX3_goBackward_81 : decode cX3_goBackward 81 = .ok (.aload_n 0, 1) := by decide +kernel
theorem dX3_goBackward_82 : decode cX3_goBackward 82 = .ok (.aload_n 0, 1) := by decide +kernel
theorem dX3_goBackward_83 : decode cX3_goBackward 83 = .ok (.getfield 30, 3) := by decide +kernel
theorem dX3_goBackward_86 : decode cX3_goBackward 86 = .ok (.iload_n 3, 1) := by decide +kernel
theorem dX3_goBackward_87 : decode cX3_goBackward 87 = .ok (.aaload, 1) := by decide +kernel
theorem dX3_goBackward_88 : decode cX3_goBackward 88 = .ok (.aload_n 0, 1) := by decide +kernel
theorem dX3_goBackward_89 : decode cX3_goBackward 89 = .ok (.getfield 30, 3) := by decide +kernel
theorem dX3_goBackward_92 : decode cX3_goBackward 92 = .ok (.iload_n 3, 1) := by decide +kernel
theorem dX3_goBackward_93 : decode cX3_goBackward 93 = .ok (.iconst 1, 1) := by decide +kernel
theorem dX3_goBackward_94 : decode cX3_goBackward 94 = .ok (.isub, 1) := by decide +kernel
theorem dX3_goBackward_95 : decode cX3_goBackward 95 = .ok (.aaload, 1) := by decide +kernel
theorem dX3_goBackward_96 : decode cX3_goBackward 96 = .ok (.aload_n 1, 1) := by decide +kernel
theorem dX3_goBackward_97 : decode cX3_goBackward 97 = .ok (.getfield 96, 3) := by decide +kernel
theorem dX3_goBackward_100 : decode cX3_goBackward 100 = .ok (.iload_n 3, 1) := by decide +kernel
theorem dX3_goBackward_101 : decode cX3_goBackward 101 = .ok (.iconst 1, 1) := by decide +kernel
theorem dX3_goBackward_102 : decode cX3_goBackward 102 = .ok (.isub, 1) := by decide +kernel
theorem dX3_goBackward_103 : decode cX3_goBackward 103 = .ok (.iaload, 1) := by decide +kernel
theorem dX3_goBackward_104 : decode cX3_goBackward 104 = .ok (.aload_n 1, 1) := by decide +kernel
theorem dX3_goBackward_105 : decode cX3_goBackward 105 = .ok (.getfield 99, 3) := by decide +kernel
theorem dX3_goBackward_108 : decode cX3_goBackward 108 = .ok (.iload_n 3, 1) := by decide +kernel
theorem dX3_goBackward_109 : decode cX3_goBackward 109 = .ok (.iconst 1, 1) := by decide +kernel
theorem dX3_goBackward_110 : decode cX3_goBackward 110 = .ok (.isub, 1) := by decide +kernel
theorem dX3_goBackward_111 : decode cX3_goBackward 111 = .ok (.iaload, 1) := by decide +kernel
theorem dX3_goBackward_112 : decode cX3_goBackward 112 = .ok (.iconst 0, 1) := by decide +kernel
theorem dX3_goBackward_113 : decode cX3_goBackward 113 = .ok (.invokevirtual 106, 3) := by decide +kernel
theorem dX3_goBackward_116 : decode cX3_goBackward 116 = .ok (.iinc 3 (-1), 3) := by decide +kernel
theorem dX3_goBackward_119 : decode cX3_goBackward 119 = .ok (.goto (-49), 3) := by decide +kernel
theorem dX3_goBackward_122 : decode cX3_goBackward 122 = .ok (.return_, 1) := by decide +kernel
set_option maxRecDepth 20000 in
theorem ggX3_followBest_X3_setGapAheadOf : GoodIn wsX3_followBest wsX3_setGapAheadOf := goodIn_r _ [7, 8, 9, 10, 11, 12, 13, 14, 15, 16, 17, 18, 19, 20, 21, 22, 23, 24, 25, 42, 43, 44, 45, 46, 47, 48, 49, 50, 51, 52, 53, 54, 55, 56, 57, 58, 59] (by decide +kernel) (by decide +kernel)
set_option maxRecDepth 20000 in
theorem gX3_followBest_X3_setGapAheadOf : GoodIn wsX3_followBest (wsV RX3 92 RX3 yX3_setGapAheadOf wsX3_setGapAheadOf) := goodIn_app (goodIn_of _ (by decide +kernel)) ggX3_followBest_X3_setGapAheadOf
set_option maxRecDepth 20000 in
theorem ggX3_followBest_X3_bestNext : GoodIn wsX3_followBest wsX3_bestNext := goodIn_r _ [29, 30, 8, 31, 32, 33, 17, 34, 19, 35, 36, 23, 37, 38, 39, 40, 41, 20, 46, 47, 48, 49, 50, 51, 52, 53, 54, 55, 56, 57, 58, 59] (by decide +kernel) (by decide +kernel)
set_option maxRecDepth 20000 in
theorem gX3_followBest_X3_bestNext : GoodIn wsX3_followBest (wsV RX3 130 RX3 yX3_bestNext wsX3_bestNext) := goodIn_app (goodIn_of _ (by decide +kernel)) ggX3_followBest_X3_bestNext
theorem dX3_followBest_0 : decode cX3_followBest 0 = .ok (.aload_n 1, 1) := by decide +kernel
theorem dX3_followBest_1 : decode cX3_followBest 1 = .ok (.getfield 88, 3) := by decide +kernel
theorem dX3_followBest_4 : decode cX3_followBest 4 = .ok (.istore_n 2, 1) := by decide +kernel
theorem dX3_followBest_5 : decode cX3_followBest 5 = .ok (.iconst 0, 1) := by decide +kernel
theorem dX3_followBest_6 : decode cX3_followBest 6 = .ok (.istore_n 3, 1) := by decide +kernel
theorem dX3_followBest_7 : decode cX3_followBest 7 = .ok (.iload_n 3, 1) := by decide +kernel
theorem dX3_followBest_8 : decode cX3_followBest 8 = .ok (.aload_n 1, 1) := by decide +kernel
theorem dX3_followBest_9 : decode cX3_followBest 9 = .ok (.getfield 60, 3) := by decide +kernel
theorem dX3_followBest_12 : decode cX3_followBest 12 = .ok (.if_icmp .ge 40, 3) := by decide +kernel
theorem dX3_followBest_15 : decode cX3_followBest 15 = .ok (.iload_n 2, 1) := by decide +kernel
theorem dX3_followBest_16 : decode cX3_followBest 16 = .ok (.iconst (-1), 1) := by decide +kernel
theorem dX3_followBest_17 : decode cX3_followBest 17 = .ok (.if_icmp .eq 22, 3) := by decide +kernel
theorem dX3_followBest_20 : decode cX3_followBest 20 = .ok (.aload_n 0, 1) := by decide +kernel
theorem dX3_followBest_21 : decode cX3_followBest 21 = .ok (.aload_n 1, 1) := by decide +kernel
theorem dX3_followBest_22 : decode cX3_followBest 22 = .ok (.iload_n 3, 1) := by decide +kernel
theorem dX3_followBest_23 : decode cX3_followBest 23 = .ok (.iconst 0, 1) := by decide +kernel
theorem dX3_followBest_24 : decode cX3_followBest 24 = .ok (.invokevirtual 92, 3) := by decide +kernel
theorem dX3_followBest_27 : decode cX3_followBest 27 = .ok (.aload_n 0, 1) := by decide +kernel
theorem dX3_followBest_28 : decode cX3_followBest 28 = .ok (.iload_n 2, 1) := by decide +kernel
theorem dX3_followBest_29 : decode cX3_followBest 29 = .ok (.aload_n 0, 1) := by decide +kernel
theorem dX3_followBest_30 : decode cX3_followBest 30 = .ok (.getfield 30, 3) := by decide +kernel
theorem dX3_followBest_33 : decode cX3_followBest 33 = .ok (.iload_n 3, 1) := by decide +kernel
theorem dX3_followBest_34 : decode cX3_followBest 34 = .ok (.aaload, 1) := by decide +kernel
theorem dX3_followBest_35 : decode cX3_followBest 35 = .ok (.invokevirtual 130, 3) := by decide +kernel
theorem dX3_followBest_38 : decode cX3_followBest 38 = .ok (.istore_n 2, 1) := by decide +kernel
theorem dX3_followBest_39 : decode cX3_followBest 39 = .ok (.aload_n 0, 1) := by decide +kernel
theorem dX3_followBest_40 : decode cX3_followBest 40 = .ok (.getfield 36, 3) := by decide +kernel
theorem dX3_followBest_43 : decode cX3_followBest 43 = .ok (.iload_n 3, 1) := by decide +kernel
theorem dX3_followBest_44 : decode cX3_followBest 44 = .ok (.iload_n 2, 1) := by decide +kernel
theorem dX3_followBest_45 : decode cX3_followBest 45 = .ok (.iastore, 1) := by decide +kernel
theorem dX3_followBest_46 : decode cX3_followBest 46 = .ok (.iinc 3 1, 3) := by decide +kernel
theorem dX3_followBest_49 : decode cX3_followBest 49 = .ok (.goto (-42), 3) := by decide +kernel
theorem dX3_followBest_52 : decode cX3_followBest 52 = .ok (.return_, 1) := by decide +kernel
set_option maxRecDepth 20000 in
theorem ggX3_bestNext_X0_movesBetween : GoodIn wsX3_bestNext wsX0_movesBetween := goodIn_r _ [7, 8, 9, 10, 11, 12, 13, 14, 15, 6, 16, 17, 30, 31] (by decide +kernel) (by decide +kernel)
set_option maxRecDepth 20000 in
theorem gX3_bestNext_X0_movesBetween : GoodIn wsX3_bestNext (wsV RX3 134 RX0 yX0_movesBetween wsX0_movesBetween) := goodIn_app (goodIn_of _ (by decide +kernel)) ggX3_bestNext_X0_movesBetween
theorem dX3_bestNext_0 : decode cX3_bestNext 0 = .ok (.iconst (-1), 1) := by decide +kernel
theorem dX3_bestNext_1 : decode cX3_bestNext 1 = .ok (.istore_n 3, 1) := by decide +kernel
theorem dX3_bestNext_2 : decode cX3_bestNext 2 = .ok (.ldc 58, 2) := by decide +kernel
theorem dX3_bestNext_4 : decode cX3_bestNext 4 = .ok (.istore 4, 2) := by decide +kernel
theorem dX3_bestNext_6 : decode cX3_bestNext 6 = .ok (.iconst 0, 1) := by decide +kernel
theorem dX3_bestNext_7 : decode cX3_bestNext 7 = .ok (.istore 5, 2) := by decide +kernel
theorem dX3_bestNext_9 : decode cX3_bestNext 9 = .ok (.iload 5, 2) := by decide +kernel
theorem dX3_bestNext_11 : decode cX3_bestNext 11 = .ok (.sipush 2187, 3) := by decide +kernel
theorem dX3_bestNext_14 : decode cX3_bestNext 14 = .ok (.if_icmp .ge 72, 3) := by decide +kernel
theorem dX3_bestNext_17 : decode cX3_bestNext 17 = .ok (.aload_n 2, 1) := by decide +kernel
theorem dX3_bestNext_18 : decode cX3_bestNext 18 = .ok (.iload 5, 2) := by decide +kernel
theorem dX3_bestNext_20 : decode cX3_bestNext 20 = .ok (.iaload, 1) := by decide +kernel
theorem dX3_bestNext_21 : decode cX3_bestNext 21 = .ok (.bipush 20, 2) := by decide +kernel
theorem dX3_bestNext_23 : decode cX3_bestNext 23 = .ok (.ishr, 1) := by decide +kernel
theorem dX3_bestNext_24 : decode cX3_bestNext 24 = .ok (.istore 6, 2) := by decide +kernel
theorem dX3_bestNext_26 : decode cX3_bestNext 26 = .ok (.aload_n 2, 1) := by decide +kernel
theorem dX3_bestNext_27 : decode cX3_bestNext 27 = .ok (.iload 5, 2) := by decide +kernel
theorem dX3_bestNext_29 : decode cX3_bestNext 29 = .ok (.iaload, 1) := by decide +kernel
theorem dX3_bestNext_30 : decode cX3_bestNext 30 = .ok (.ldc 58, 2) := by decide +kernel
theorem dX3_bestNext_32 : decode cX3_bestNext 32 = .ok (.if_icmp .eq 48, 3) := by decide +kernel
theorem dX3_bestNext_35 : decode cX3_bestNext 35 = .ok (.iload 6, 2) := by decide +kernel
theorem dX3_bestNext_37 : decode cX3_bestNext 37 = .ok (.iload 4, 2) := by decide +kernel
theorem dX3_bestNext_39 : decode cX3_bestNext 39 = .ok (.if_icmp .ge 41, 3) := by decide +kernel
theorem dX3_bestNext_42 : decode cX3_bestNext 42 = .ok (.aload_n 0, 1) := by decide +kernel
theorem dX3_bestNext_43 : decode cX3_bestNext 43 = .ok (.getfield 14, 3) := by decide +kernel
theorem dX3_bestNext_46 : decode cX3_bestNext 46 = .ok (.iload_n 1, 1) := by decide +kernel
theorem dX3_bestNext_47 : decode cX3_bestNext 47 = .ok (.iload 5, 2) := by decide +kernel
theorem dX3_bestNext_49 : decode cX3_bestNext 49 = .ok (.invokevirtual 134, 3) := by decide +kernel
theorem dX3_bestNext_52 : decode cX3_bestNext 52 = .ok (.istore 7, 2) := by decide +kernel
theorem dX3_bestNext_54 : decode cX3_bestNext 54 = .ok (.iload 7, 2) := by decide +kernel
theorem dX3_bestNext_56 : decode cX3_bestNext 56 = .ok (.iconst (-1), 1) := by decide +kernel
theorem dX3_bestNext_57 : decode cX3_bestNext 57 = .ok (.if_icmp .eq 23, 3) := by decide +kernel
theorem dX3_bestNext_60 : decode cX3_bestNext 60 = .ok (.iload 7, 2) := by decide +kernel
theorem dX3_bestNext_62 : decode cX3_bestNext 62 = .ok (.iload 6, 2) := by decide +kernel
theorem dX3_bestNext_64 : decode cX3_bestNext 64 = .ok (.iadd, 1) := by decide +kernel
theorem dX3_bestNext_65 : decode cX3_bestNext 65 = .ok (.iload 4, 2) := by decide +kernel
theorem dX3_bestNext_67 : decode cX3_bestNext 67 = .ok (.if_icmp .ge 13, 3) := by decide +kernel
theorem dX3_bestNext_70 : decode cX3_bestNext 70 = .ok (.iload 5, 2) := by decide +kernel
theorem dX3_bestNext_72 : decode cX3_bestNext 72 = .ok (.istore_n 3, 1) := by decide +kernel
theorem dX3_bestNext_73 : decode cX3_bestNext 73 = .ok (.iload 7, 2) := by decide +kernel
theorem dX3_bestNext_75 : decode cX3_bestNext 75 = .ok (.iload 6, 2) := by decide +kernel
theorem dX3_bestNext_77 : decode cX3_bestNext 77 = .ok (.iadd, 1) := by decide +kernel
theorem dX3_bestNext_78 : decode cX3_bestNext 78 = .ok (.istore 4, 2) := by decide +kernel
theorem dX3_bestNext_80 : decode cX3_bestNext 80 = .ok (.iinc 5 1, 3) := by decide +kernel
theorem dX3_bestNext_83 : decode cX3_bestNext 83 = .ok (.goto (-74), 3) := by decide +kernel
theorem dX3_bestNext_86 : decode cX3_bestNext 86 = .ok (.iload_n 3, 1) := by decide +kernel
theorem dX3_bestNext_87 : decode cX3_bestNext 87 = .ok (.ireturn, 1) := by decide +kernel
set_option maxRecDepth 20000 in
theorem ggX3_setGapAheadOf_X8_isHeld : GoodIn wsX3_setGapAheadOf wsX8_isHeld := goodIn_r _ [4] (by decide +kernel) (by decide +kernel)
set_option maxRecDepth 20000 in
theorem gX3_setGapAheadOf_X8_isHeld_n137 : GoodIn wsX3_setGapAheadOf (wsX8_isHeld) := ggX3_setGapAheadOf_X8_isHeld
set_option maxRecDepth 20000 in
theorem ggX3_setGapAheadOf_X8_raised : GoodIn wsX3_setGapAheadOf wsX8_raised := goodIn_r _ [6] (by decide +kernel) (by decide +kernel)
set_option maxRecDepth 20000 in
theorem gX3_setGapAheadOf_X8_raised_n102 : GoodIn wsX3_setGapAheadOf (wsX8_raised) := ggX3_setGapAheadOf_X8_raised
set_option maxRecDepth 20000 in
theorem ggX3_setGapAheadOf_X0_set : GoodIn wsX3_setGapAheadOf wsX0_set := goodIn_r _ [11, 12, 13, 14, 15, 16, 17, 18, 35, 36] (by decide +kernel) (by decide +kernel)
set_option maxRecDepth 20000 in
theorem gX3_setGapAheadOf_X0_set : GoodIn wsX3_setGapAheadOf (wsV RX3 140 RX0 yX0_set wsX0_set) := goodIn_app (goodIn_of _ (by decide +kernel)) ggX3_setGapAheadOf_X0_set
theorem dX3_setGapAheadOf_0 : decode cX3_setGapAheadOf 0 = .ok (.iload_n 2, 1) := by decide +kernel
theorem dX3_setGapAheadOf_1 : decode cX3_setGapAheadOf 1 = .ok (.ifCond .le 21, 3) := by decide +kernel
theorem dX3_setGapAheadOf_4 : decode cX3_setGapAheadOf 4 = .ok (.aload_n 1, 1) := by decide +kernel
theorem dX3_setGapAheadOf_5 : decode cX3_setGapAheadOf 5 = .ok (.getfield 96, 3) := by decide +kernel
theorem dX3_setGapAheadOf_8 : decode cX3_setGapAheadOf 8 = .ok (.iload_n 2, 1) := by decide +kernel
theorem dX3_setGapAheadOf_9 : decode cX3_setGapAheadOf 9 = .ok (.iconst 1, 1) := by decide +kernel
theorem dX3_setGapAheadOf_10 : decode cX3_setGapAheadOf 10 = .ok (.isub, 1) := by decide +kernel
theorem dX3_setGapAheadOf_11 : decode cX3_setGapAheadOf 11 = .ok (.iaload, 1) := by decide +kernel
theorem dX3_setGapAheadOf_12 : decode cX3_setGapAheadOf 12 = .ok (.invokestatic 137, 3) := by decide +kernel
theorem dX3_setGapAheadOf_15 : decode cX3_setGapAheadOf 15 = .ok (.ifCond .eq 7, 3) := by decide +kernel
theorem dX3_setGapAheadOf_18 : decode cX3_setGapAheadOf 18 = .ok (.iconst 1, 1) := by decide +kernel
theorem dX3_setGapAheadOf_19 : decode cX3_setGapAheadOf 19 = .ok (.goto 4, 3) := by decide +kernel
theorem dX3_setGapAheadOf_22 : decode cX3_setGapAheadOf 22 = .ok (.iconst 0, 1) := by decide +kernel
theorem dX3_setGapAheadOf_23 : decode cX3_setGapAheadOf 23 = .ok (.istore 4, 2) := by decide +kernel
theorem dX3_setGapAheadOf_25 : decode cX3_setGapAheadOf 25 = .ok (.aload_n 0, 1) := by decide +kernel
theorem dX3_setGapAheadOf_26 : decode cX3_setGapAheadOf 26 = .ok (.getfield 14, 3) := by decide +kernel
theorem dX3_setGapAheadOf_29 : decode cX3_setGapAheadOf 29 = .ok (.aload_n 1, 1) := by decide +kernel
theorem dX3_setGapAheadOf_30 : decode cX3_setGapAheadOf 30 = .ok (.getfield 96, 3) := by decide +kernel
theorem dX3_setGapAheadOf_33 : decode cX3_setGapAheadOf 33 = .ok (.iload_n 2, 1) := by decide +kernel
theorem dX3_setGapAheadOf_34 : decode cX3_setGapAheadOf 34 = .ok (.iaload, 1) := by decide +kernel
theorem dX3_setGapAheadOf_35 : decode cX3_setGapAheadOf 35 = .ok (.iload 4, 2) := by decide +kernel
theorem dX3_setGapAheadOf_37 : decode cX3_setGapAheadOf 37 = .ok (.ifCond .eq 18, 3) := by decide +kernel
theorem dX3_setGapAheadOf_40 : decode cX3_setGapAheadOf 40 = .ok (.aload_n 1, 1) := by decide +kernel
theorem dX3_setGapAheadOf_41 : decode cX3_setGapAheadOf 41 = .ok (.getfield 99, 3) := by decide +kernel
theorem dX3_setGapAheadOf_44 : decode cX3_setGapAheadOf 44 = .ok (.iload_n 2, 1) := by decide +kernel
theorem dX3_setGapAheadOf_45 : decode cX3_setGapAheadOf 45 = .ok (.iconst 1, 1) := by decide +kernel
theorem dX3_setGapAheadOf_46 : decode cX3_setGapAheadOf 46 = .ok (.isub, 1) := by decide +kernel
theorem dX3_setGapAheadOf_47 : decode cX3_setGapAheadOf 47 = .ok (.iaload, 1) := by decide +kernel
theorem dX3_setGapAheadOf_48 : decode cX3_setGapAheadOf 48 = .ok (.iload_n 3, 1) := by decide +kernel
theorem dX3_setGapAheadOf_49 : decode cX3_setGapAheadOf 49 = .ok (.invokestatic 102, 3) := by decide +kernel
theorem dX3_setGapAheadOf_52 : decode cX3_setGapAheadOf 52 = .ok (.goto 4, 3) := by decide +kernel
theorem dX3_setGapAheadOf_55 : decode cX3_setGapAheadOf 55 = .ok (.iconst 0, 1) := by decide +kernel
theorem dX3_setGapAheadOf_56 : decode cX3_setGapAheadOf 56 = .ok (.invokevirtual 140, 3) := by decide +kernel
theorem dX3_setGapAheadOf_59 : decode cX3_setGapAheadOf 59 = .ok (.return_, 1) := by decide +kernel
set_option maxRecDepth 20000 in
theorem ggX3_cross_X3_spreadByRight : GoodIn wsX3_cross wsX3_spreadByRight := goodIn_r _ [13, 8, 14, 1, 2, 15, 16, 17, 18, 19, 20, 21, 22, 23, 24, 25, 26, 12, 27, 28, 29, 30, 40, 41, 42, 43, 44, 45, 46, 47, 48, 49, 50, 51, 52, 53] (by decide +kernel) (by decide +kernel)
set_option maxRecDepth 20000 in
theorem gX3_cross_X3_spreadByRight : GoodIn wsX3_cross (wsV RX3 153 RX3 yX3_spreadByRight wsX3_spreadByRight) := goodIn_app (goodIn_of _ (by decide +kernel)) ggX3_cross_X3_spreadByRight
set_option maxRecDepth 20000 in
theorem ggX3_cross_X7_fits : GoodIn wsX3_cross wsX7_fits := goodIn_r _ [34, 35, 54] (by decide +kernel) (by decide +kernel)
set_option maxRecDepth 20000 in
theorem gX3_cross_X7_fits : GoodIn wsX3_cross (wsV RX3 126 RX7 yX7_fits wsX7_fits) := goodIn_app (goodIn_of _ (by decide +kernel)) ggX3_cross_X7_fits
set_option maxRecDepth 20000 in
theorem ggX3_cross_X3_gathered : GoodIn wsX3_cross wsX3_gathered := goodIn_r _ [39, 1, 8, 14, 15, 16, 17, 18, 19, 20, 21, 22, 23, 24, 25, 26, 12, 27, 28, 29, 30, 40, 41, 42, 43, 44, 45, 46, 47, 48, 49, 50, 51, 52, 53] (by decide +kernel) (by decide +kernel)
set_option maxRecDepth 20000 in
theorem gX3_cross_X3_gathered : GoodIn wsX3_cross (wsV RX3 157 RX3 yX3_gathered wsX3_gathered) := goodIn_app (goodIn_of _ (by decide +kernel)) ggX3_cross_X3_gathered
theorem dX3_cross_0 : decode cX3_cross 0 = .ok (.aload_n 0, 1) := by decide +kernel
theorem dX3_cross_1 : decode cX3_cross 1 = .ok (.getfield 14, 3) := by decide +kernel
theorem dX3_cross_4 : decode cX3_cross 4 = .ok (.getfield 144, 3) := by decide +kernel
theorem dX3_cross_7 : decode cX3_cross 7 = .ok (.istore 6, 2) := by decide +kernel
theorem dX3_cross_9 : decode cX3_cross 9 = .ok (.aload_n 1, 1) := by decide +kernel
theorem dX3_cross_10 : decode cX3_cross 10 = .ok (.astore 7, 2) := by decide +kernel
theorem dX3_cross_12 : decode cX3_cross 12 = .ok (.iload 6, 2) := by decide +kernel
theorem dX3_cross_14 : decode cX3_cross 14 = .ok (.iconst 2, 1) := by decide +kernel
theorem dX3_cross_15 : decode cX3_cross 15 = .ok (.if_icmp .ne 29, 3) := by decide +kernel
theorem dX3_cross_18 : decode cX3_cross 18 = .ok (.aload_n 1, 1) := by decide +kernel
theorem dX3_cross_19 : decode cX3_cross 19 = .ok (.iconst 0, 1) := by decide +kernel
theorem dX3_cross_20 : decode cX3_cross 20 = .ok (.aload_n 0, 1) := by decide +kernel
theorem dX3_cross_21 : decode cX3_cross 21 = .ok (.getfield 25, 3) := by decide +kernel
theorem dX3_cross_24 : decode cX3_cross 24 = .ok (.iconst 0, 1) := by decide +kernel
theorem dX3_cross_25 : decode cX3_cross 25 = .ok (.sipush 2187, 3) := by decide +kernel
theorem dX3_cross_28 : decode cX3_cross 28 = .ok (.invokestatic 147, 3) := by decide +kernel
theorem dX3_cross_31 : decode cX3_cross 31 = .ok (.aload_n 0, 1) := by decide +kernel
theorem dX3_cross_32 : decode cX3_cross 32 = .ok (.aload_n 1, 1) := by decide +kernel
theorem dX3_cross_33 : decode cX3_cross 33 = .ok (.iload 5, 2) := by decide +kernel
theorem dX3_cross_35 : decode cX3_cross 35 = .ok (.invokevirtual 153, 3) := by decide +kernel
theorem dX3_cross_38 : decode cX3_cross 38 = .ok (.aload_n 0, 1) := by decide +kernel
theorem dX3_cross_39 : decode cX3_cross 39 = .ok (.getfield 25, 3) := by decide +kernel
theorem dX3_cross_42 : decode cX3_cross 42 = .ok (.astore 7, 2) := by decide +kernel
theorem dX3_cross_44 : decode cX3_cross 44 = .ok (.iload 6, 2) := by decide +kernel
theorem dX3_cross_46 : decode cX3_cross 46 = .ok (.ifCond .ne 7, 3) := by decide +kernel
theorem dX3_cross_49 : decode cX3_cross 49 = .ok (.iconst 0, 1) := by decide +kernel
theorem dX3_cross_50 : decode cX3_cross 50 = .ok (.goto 15, 3) := by decide +kernel
theorem dX3_cross_53 : decode cX3_cross 53 = .ok (.iload 6, 2) := by decide +kernel
theorem dX3_cross_55 : decode cX3_cross 55 = .ok (.iconst 1, 1) := by decide +kernel
theorem dX3_cross_56 : decode cX3_cross 56 = .ok (.if_icmp .ne 8, 3) := by decide +kernel
theorem dX3_cross_59 : decode cX3_cross 59 = .ok (.bipush 7, 2) := by decide +kernel
theorem dX3_cross_61 : decode cX3_cross 61 = .ok (.goto 4, 3) := by decide +kernel
theorem dX3_cross_64 : decode cX3_cross 64 = .ok (.iconst 3, 1) := by decide +kernel
theorem dX3_cross_65 : decode cX3_cross 65 = .ok (.istore 8, 2) := by decide +kernel
theorem dX3_cross_67 : decode cX3_cross 67 = .ok (.iconst 0, 1) := by decide +kernel
theorem dX3_cross_68 : decode cX3_cross 68 = .ok (.istore 9, 2) := by decide +kernel
theorem dX3_cross_70 : decode cX3_cross 70 = .ok (.iload 9, 2) := by decide +kernel
theorem dX3_cross_72 : decode cX3_cross 72 = .ok (.sipush 2187, 3) := by decide +kernel
theorem dX3_cross_75 : decode cX3_cross 75 = .ok (.if_icmp .ge 49, 3) := by decide +kernel
theorem dX3_cross_78 : decode cX3_cross 78 = .ok (.aload_n 0, 1) := by decide +kernel
theorem dX3_cross_79 : decode cX3_cross 79 = .ok (.getfield 43, 3) := by decide +kernel
theorem dX3_cross_82 : decode cX3_cross 82 = .ok (.iload 9, 2) := by decide +kernel
theorem dX3_cross_84 : decode cX3_cross 84 = .ok (.iload_n 3, 1) := by decide +kernel
theorem dX3_cross_85 : decode cX3_cross 85 = .ok (.iload 4, 2) := by decide +kernel
theorem dX3_cross_87 : decode cX3_cross 87 = .ok (.invokevirtual 126, 3) := by decide +kernel
theorem dX3_cross_90 : decode cX3_cross 90 = .ok (.istore 10, 2) := by decide +kernel
theorem dX3_cross_92 : decode cX3_cross 92 = .ok (.aload_n 2, 1) := by decide +kernel
theorem dX3_cross_93 : decode cX3_cross 93 = .ok (.iload 9, 2) := by decide +kernel
theorem dX3_cross_95 : decode cX3_cross 95 = .ok (.iload 10, 2) := by decide +kernel
theorem dX3_cross_97 : decode cX3_cross 97 = .ok (.ifCond .eq 18, 3) := by decide +kernel
theorem dX3_cross_100 : decode cX3_cross 100 = .ok (.aload_n 0, 1) := by decide +kernel
theorem dX3_cross_101 : decode cX3_cross 101 = .ok (.aload 7, 2) := by decide +kernel
theorem dX3_cross_103 : decode cX3_cross 103 = .ok (.iload 9, 2) := by decide +kernel
theorem dX3_cross_105 : decode cX3_cross 105 = .ok (.iload 8, 2) := by decide +kernel
theorem dX3_cross_107 : decode cX3_cross 107 = .ok (.iload 5, 2) := by decide +kernel
theorem dX3_cross_109 : decode cX3_cross 109 = .ok (.invokevirtual 157, 3) := by decide +kernel
theorem dX3_cross_112 : decode cX3_cross 112 = .ok (.goto 5, 3) := by decide +kernel
theorem dX3_cross_115 : decode cX3_cross 115 = .ok (.ldc 58, 2) := by decide +kernel
theorem dX3_cross_117 : decode cX3_cross 117 = .ok (.iastore, 1) := by decide +kernel
theorem dX3_cross_118 : decode cX3_cross 118 = .ok (.iinc 9 1, 3) := by decide +kernel
theorem dX3_cross_121 : decode cX3_cross 121 = .ok (.goto (-51), 3) := by decide +kernel
theorem dX3_cross_124 : decode cX3_cross 124 = .ok (.return_, 1) := by decide +kernel
set_option maxRecDepth 20000 in
theorem ggX3_spreadByRight_X7_positionAt : GoodIn wsX3_spreadByRight wsX7_positionAt := goodIn_r _ [8] (by decide +kernel) (by decide +kernel)
set_option maxRecDepth 20000 in
theorem gX3_spreadByRight_X7_positionAt : GoodIn wsX3_spreadByRight (va_wsS RX3 162 yX7_positionAt wsX7_positionAt) := goodIn_app (goodIn_of _ (by decide +kernel)) ggX3_spreadByRight_X7_positionAt
set_option maxRecDepth 20000 in
theorem ggX3_spreadByRight_X0_holds : GoodIn wsX3_spreadByRight wsX0_holds := goodIn_r _ [13, 14, 34, 35] (by decide +kernel) (by decide +kernel)
set_option maxRecDepth 20000 in
theorem gX3_spreadByRight_X0_holds : GoodIn wsX3_spreadByRight (wsV RX3 165 RX0 yX0_holds wsX0_holds) := goodIn_app (goodIn_of _ (by decide +kernel)) ggX3_spreadByRight_X0_holds
set_option maxRecDepth 20000 in
theorem ggX3_spreadByRight_X3_joined : GoodIn wsX3_spreadByRight wsX3_joined := goodIn_r _ [18, 19, 20, 21] (by decide +kernel) (by decide +kernel)
set_option maxRecDepth 20000 in
theorem gX3_spreadByRight_X3_joined : GoodIn wsX3_spreadByRight (va_wsS RX3 172 yX3_joined wsX3_joined) := goodIn_app (goodIn_of _ (by decide +kernel)) ggX3_spreadByRight_X3_joined
theorem dX3_spreadByRight_0 : decode cX3_spreadByRight 0 = .ok (.iconst 0, 1) := by decide +kernel
theorem dX3_spreadByRight_1 : decode cX3_spreadByRight 1 = .ok (.istore_n 3, 1) := by decide +kernel
theorem dX3_spreadByRight_2 : decode cX3_spreadByRight 2 = .ok (.iload_n 3, 1) := by decide +kernel
theorem dX3_spreadByRight_3 : decode cX3_spreadByRight 3 = .ok (.sipush 2187, 3) := by decide +kernel
theorem dX3_spreadByRight_6 : decode cX3_spreadByRight 6 = .ok (.if_icmp .ge 132, 3) := by decide +kernel
theorem dX3_spreadByRight_9 : decode cX3_spreadByRight 9 = .ok (.aload_n 1, 1) := by decide +kernel
theorem dX3_spreadByRight_10 : decode cX3_spreadByRight 10 = .ok (.iload_n 3, 1) := by decide +kernel
theorem dX3_spreadByRight_11 : decode cX3_spreadByRight 11 = .ok (.iaload, 1) := by decide +kernel
theorem dX3_spreadByRight_12 : decode cX3_spreadByRight 12 = .ok (.ldc 58, 2) := by decide +kernel
theorem dX3_spreadByRight_14 : decode cX3_spreadByRight 14 = .ok (.if_icmp .ne 6, 3) := by decide +kernel
theorem dX3_spreadByRight_17 : decode cX3_spreadByRight 17 = .ok (.goto 115, 3) := by decide +kernel
theorem dX3_spreadByRight_20 : decode cX3_spreadByRight 20 = .ok (.aload_n 1, 1) := by decide +kernel
theorem dX3_spreadByRight_21 : decode cX3_spreadByRight 21 = .ok (.iload_n 3, 1) := by decide +kernel
theorem dX3_spreadByRight_22 : decode cX3_spreadByRight 22 = .ok (.iaload, 1) := by decide +kernel
theorem dX3_spreadByRight_23 : decode cX3_spreadByRight 23 = .ok (.ldc 161, 2) := by decide +kernel
theorem dX3_spreadByRight_25 : decode cX3_spreadByRight 25 = .ok (.iadd, 1) := by decide +kernel
theorem dX3_spreadByRight_26 : decode cX3_spreadByRight 26 = .ok (.istore 4, 2) := by decide +kernel
theorem dX3_spreadByRight_28 : decode cX3_spreadByRight 28 = .ok (.iconst 3, 1) := by decide +kernel
theorem dX3_spreadByRight_29 : decode cX3_spreadByRight 29 = .ok (.istore 5, 2) := by decide +kernel
theorem dX3_spreadByRight_31 : decode cX3_spreadByRight 31 = .ok (.iload 5, 2) := by decide +kernel
theorem dX3_spreadByRight_33 : decode cX3_spreadByRight 33 = .ok (.bipush 7, 2) := by decide +kernel
theorem dX3_spreadByRight_35 : decode cX3_spreadByRight 35 = .ok (.if_icmp .ge 97, 3) := by decide +kernel
theorem dX3_spreadByRight_38 : decode cX3_spreadByRight 38 = .ok (.iload_n 3, 1) := by decide +kernel
theorem dX3_spreadByRight_39 : decode cX3_spreadByRight 39 = .ok (.iload 5, 2) := by decide +kernel
theorem dX3_spreadByRight_41 : decode cX3_spreadByRight 41 = .ok (.invokestatic 162, 3) := by decide +kernel
theorem dX3_spreadByRight_44 : decode cX3_spreadByRight 44 = .ok (.istore 6, 2) := by decide +kernel
theorem dX3_spreadByRight_46 : decode cX3_spreadByRight 46 = .ok (.iconst 0, 1) := by decide +kernel
theorem dX3_spreadByRight_47 : decode cX3_spreadByRight 47 = .ok (.istore 7, 2) := by decide +kernel
theorem dX3_spreadByRight_49 : decode cX3_spreadByRight 49 = .ok (.iload 7, 2) := by decide +kernel
theorem dX3_spreadByRight_51 : decode cX3_spreadByRight 51 = .ok (.iconst 3, 1) := by decide +kernel
theorem dX3_spreadByRight_52 : decode cX3_spreadByRight 52 = .ok (.if_icmp .ge 74, 3) := by decide +kernel
theorem dX3_spreadByRight_55 : decode cX3_spreadByRight 55 = .ok (.iload 7, 2) := by decide +kernel
theorem dX3_spreadByRight_57 : decode cX3_spreadByRight 57 = .ok (.iload 6, 2) := by decide +kernel
theorem dX3_spreadByRight_59 : decode cX3_spreadByRight 59 = .ok (.if_icmp .eq 61, 3) := by decide +kernel
theorem dX3_spreadByRight_62 : decode cX3_spreadByRight 62 = .ok (.aload_n 0, 1) := by decide +kernel
theorem dX3_spreadByRight_63 : decode cX3_spreadByRight 63 = .ok (.getfield 14, 3) := by decide +kernel
theorem dX3_spreadByRight_66 : decode cX3_spreadByRight 66 = .ok (.iload 5, 2) := by decide +kernel
theorem dX3_spreadByRight_68 : decode cX3_spreadByRight 68 = .ok (.iload_n 2, 1) := by decide +kernel
theorem dX3_spreadByRight_69 : decode cX3_spreadByRight 69 = .ok (.ifCond .eq 8, 3) := by decide +kernel
theorem dX3_spreadByRight_72 : decode cX3_spreadByRight 72 = .ok (.iload 6, 2) := by decide +kernel
theorem dX3_spreadByRight_74 : decode cX3_spreadByRight 74 = .ok (.goto 5, 3) := by decide +kernel
theorem dX3_spreadByRight_77 : decode cX3_spreadByRight 77 = .ok (.iload 7, 2) := by decide +kernel
theorem dX3_spreadByRight_79 : decode cX3_spreadByRight 79 = .ok (.invokevirtual 165, 3) := by decide +kernel
theorem dX3_spreadByRight_82 : decode cX3_spreadByRight 82 = .ok (.ifCond .ne 38, 3) := by decide +kernel
theorem dX3_spreadByRight_85 : decode cX3_spreadByRight 85 = .ok (.iload_n 3, 1) := by decide +kernel
theorem dX3_spreadByRight_86 : decode cX3_spreadByRight 86 = .ok (.iload 7, 2) := by decide +kernel
theorem dX3_spreadByRight_88 : decode cX3_spreadByRight 88 = .ok (.iload 6, 2) := by decide +kernel
theorem dX3_spreadByRight_90 : decode cX3_spreadByRight 90 = .ok (.isub, 1) := by decide +kernel
theorem dX3_spreadByRight_91 : decode cX3_spreadByRight 91 = .ok (.getstatic 169, 3) := by decide +kernel
theorem dX3_spreadByRight_94 : decode cX3_spreadByRight 94 = .ok (.iload 5, 2) := by decide +kernel
theorem dX3_spreadByRight_96 : decode cX3_spreadByRight 96 = .ok (.iaload, 1) := by decide +kernel
theorem dX3_spreadByRight_97 : decode cX3_spreadByRight 97 = .ok (.imul, 1) := by decide +kernel
theorem dX3_spreadByRight_98 : decode cX3_spreadByRight 98 = .ok (.iadd, 1) := by decide +kernel
theorem dX3_spreadByRight_99 : decode cX3_spreadByRight 99 = .ok (.istore 8, 2) := by decide +kernel
theorem dX3_spreadByRight_101 : decode cX3_spreadByRight 101 = .ok (.aload_n 0, 1) := by decide +kernel
theorem dX3_spreadByRight_102 : decode cX3_spreadByRight 102 = .ok (.getfield 25, 3) := by decide +kernel
theorem dX3_spreadByRight_105 : decode cX3_spreadByRight 105 = .ok (.iload 8, 2) := by decide +kernel
theorem dX3_spreadByRight_107 : decode cX3_spreadByRight 107 = .ok (.aload_n 0, 1) := by decide +kernel
theorem dX3_spreadByRight_108 : decode cX3_spreadByRight 108 = .ok (.getfield 25, 3) := by decide +kernel
theorem dX3_spreadByRight_111 : decode cX3_spreadByRight 111 = .ok (.iload 8, 2) := by decide +kernel
theorem dX3_spreadByRight_113 : decode cX3_spreadByRight 113 = .ok (.iaload, 1) := by decide +kernel
theorem dX3_spreadByRight_114 : decode cX3_spreadByRight 114 = .ok (.iload 4, 2) := by decide +kernel
theorem dX3_spreadByRight_116 : decode cX3_spreadByRight 116 = .ok (.invokestatic 172, 3) := by decide +kernel
theorem dX3_spreadByRight_119 : decode cX3_spreadByRight 119 = .ok (.iastore, 1) := by decide +kernel
theorem dX3_spreadByRight_120 : decode cX3_spreadByRight 120 = .ok (.iinc 7 1, 3) := by decide +kernel
theorem dX3_spreadByRight_123 : decode cX3_spreadByRight 123 = .ok (.goto (-74), 3) := by decide +kernel
theorem dX3_spreadByRight_126 : decode cX3_spreadByRight 126 = .ok (.iinc 5 1, 3) := by decide +kernel
theorem dX3_spreadByRight_129 : decode cX3_spreadByRight 129 = .ok (.goto (-98), 3) := by decide +kernel
theorem dX3_spreadByRight_132 : decode cX3_spreadByRight 132 = .ok (.iinc 3 1, 3) := by decide +kernel
theorem dX3_spreadByRight_135 : decode cX3_spreadByRight 135 = .ok (.goto (-133), 3) := by decide +kernel
theorem dX3_spreadByRight_138 : decode cX3_spreadByRight 138 = .ok (.return_, 1) := by decide +kernel
set_option maxRecDepth 20000 in
theorem ggX3_gathered_X7_positionAt : GoodIn wsX3_gathered wsX7_positionAt := goodIn_r _ [7] (by decide +kernel) (by decide +kernel)
set_option maxRecDepth 20000 in
theorem gX3_gathered_X7_positionAt : GoodIn wsX3_gathered (va_wsS RX3 162 yX7_positionAt wsX7_positionAt) := goodIn_app (goodIn_of _ (by decide +kernel)) ggX3_gathered_X7_positionAt
set_option maxRecDepth 20000 in
theorem ggX3_gathered_X0_holds : GoodIn wsX3_gathered wsX0_holds := goodIn_r _ [12, 13, 33, 34] (by decide +kernel) (by decide +kernel)
set_option maxRecDepth 20000 in
theorem gX3_gathered_X0_holds : GoodIn wsX3_gathered (wsV RX3 165 RX0 yX0_holds wsX0_holds) := goodIn_app (goodIn_of _ (by decide +kernel)) ggX3_gathered_X0_holds
set_option maxRecDepth 20000 in
theorem ggX3_gathered_X3_joined : GoodIn wsX3_gathered wsX3_joined := goodIn_r _ [17, 18, 19, 20] (by decide +kernel) (by decide +kernel)
set_option maxRecDepth 20000 in
theorem gX3_gathered_X3_joined : GoodIn wsX3_gathered (va_wsS RX3 172 yX3_joined wsX3_joined) := goodIn_app (goodIn_of _ (by decide +kernel)) ggX3_gathered_X3_joined
theorem dX3_gathered_0 : decode cX3_gathered 0 = .ok (.aload_n 1, 1) := by decide +kernel
theorem dX3_gathered_1 : decode cX3_gathered 1 = .ok (.iload_n 2, 1) := by decide +kernel
theorem dX3_gathered_2 : decode cX3_gathered 2 = .ok (.iaload, 1) := by decide +kernel
theorem dX3_gathered_3 : decode cX3_gathered 3 = .ok (.istore 5, 2) := by decide +kernel
theorem dX3_gathered_5 : decode cX3_gathered 5 = .ok (.iconst 0, 1) := by decide +kernel
theorem dX3_gathered_6 : decode cX3_gathered 6 = .ok (.istore 6, 2) := by decide +kernel
theorem dX3_gathered_8 : decode cX3_gathered 8 = .ok (.iload 6, 2) := by decide +kernel
theorem dX3_gathered_10 : decode cX3_gathered 10 = .ok (.iload_n 3, 1) := by decide +kernel
theorem dX3_gathered_11 : decode cX3_gathered 11 = .ok (.if_icmp .ge 100, 3) := by decide +kernel
theorem dX3_gathered_14 : decode cX3_gathered 14 = .ok (.iload_n 2, 1) := by decide +kernel
theorem dX3_gathered_15 : decode cX3_gathered 15 = .ok (.iload 6, 2) := by decide +kernel
theorem dX3_gathered_17 : decode cX3_gathered 17 = .ok (.invokestatic 162, 3) := by decide +kernel
theorem dX3_gathered_20 : decode cX3_gathered 20 = .ok (.istore 7, 2) := by decide +kernel
theorem dX3_gathered_22 : decode cX3_gathered 22 = .ok (.iconst 0, 1) := by decide +kernel
theorem dX3_gathered_23 : decode cX3_gathered 23 = .ok (.istore 8, 2) := by decide +kernel
theorem dX3_gathered_25 : decode cX3_gathered 25 = .ok (.iload 8, 2) := by decide +kernel
theorem dX3_gathered_27 : decode cX3_gathered 27 = .ok (.iconst 3, 1) := by decide +kernel
theorem dX3_gathered_28 : decode cX3_gathered 28 = .ok (.if_icmp .ge 77, 3) := by decide +kernel
theorem dX3_gathered_31 : decode cX3_gathered 31 = .ok (.iload 8, 2) := by decide +kernel
theorem dX3_gathered_33 : decode cX3_gathered 33 = .ok (.iload 7, 2) := by decide +kernel
theorem dX3_gathered_35 : decode cX3_gathered 35 = .ok (.if_icmp .eq 64, 3) := by decide +kernel
theorem dX3_gathered_38 : decode cX3_gathered 38 = .ok (.aload_n 0, 1) := by decide +kernel
theorem dX3_gathered_39 : decode cX3_gathered 39 = .ok (.getfield 14, 3) := by decide +kernel
theorem dX3_gathered_42 : decode cX3_gathered 42 = .ok (.iload 6, 2) := by decide +kernel
theorem dX3_gathered_44 : decode cX3_gathered 44 = .ok (.iload 4, 2) := by decide +kernel
theorem dX3_gathered_46 : decode cX3_gathered 46 = .ok (.ifCond .eq 8, 3) := by decide +kernel
theorem dX3_gathered_49 : decode cX3_gathered 49 = .ok (.iload 8, 2) := by decide +kernel
theorem dX3_gathered_51 : decode cX3_gathered 51 = .ok (.goto 5, 3) := by decide +kernel
theorem dX3_gathered_54 : decode cX3_gathered 54 = .ok (.iload 7, 2) := by decide +kernel
theorem dX3_gathered_56 : decode cX3_gathered 56 = .ok (.invokevirtual 165, 3) := by decide +kernel
theorem dX3_gathered_59 : decode cX3_gathered 59 = .ok (.ifCond .ne 40, 3) := by decide +kernel
theorem dX3_gathered_62 : decode cX3_gathered 62 = .ok (.aload_n 1, 1) := by decide +kernel
theorem dX3_gathered_63 : decode cX3_gathered 63 = .ok (.iload_n 2, 1) := by decide +kernel
theorem dX3_gathered_64 : decode cX3_gathered 64 = .ok (.iload 8, 2) := by decide +kernel
theorem dX3_gathered_66 : decode cX3_gathered 66 = .ok (.iload 7, 2) := by decide +kernel
theorem dX3_gathered_68 : decode cX3_gathered 68 = .ok (.isub, 1) := by decide +kernel
theorem dX3_gathered_69 : decode cX3_gathered 69 = .ok (.getstatic 169, 3) := by decide +kernel
theorem dX3_gathered_72 : decode cX3_gathered 72 = .ok (.iload 6, 2) := by decide +kernel
theorem dX3_gathered_74 : decode cX3_gathered 74 = .ok (.iaload, 1) := by decide +kernel
theorem dX3_gathered_75 : decode cX3_gathered 75 = .ok (.imul, 1) := by decide +kernel
theorem dX3_gathered_76 : decode cX3_gathered 76 = .ok (.iadd, 1) := by decide +kernel
theorem dX3_gathered_77 : decode cX3_gathered 77 = .ok (.iaload, 1) := by decide +kernel
theorem dX3_gathered_78 : decode cX3_gathered 78 = .ok (.istore 9, 2) := by decide +kernel
theorem dX3_gathered_80 : decode cX3_gathered 80 = .ok (.iload 9, 2) := by decide +kernel
theorem dX3_gathered_82 : decode cX3_gathered 82 = .ok (.ldc 58, 2) := by decide +kernel
theorem dX3_gathered_84 : decode cX3_gathered 84 = .ok (.if_icmp .eq 15, 3) := by decide +kernel
theorem dX3_gathered_87 : decode cX3_gathered 87 = .ok (.iload 5, 2) := by decide +kernel
theorem dX3_gathered_89 : decode cX3_gathered 89 = .ok (.iload 9, 2) := by decide +kernel
theorem dX3_gathered_91 : decode cX3_gathered 91 = .ok (.ldc 161, 2) := by decide +kernel
theorem dX3_gathered_93 : decode cX3_gathered 93 = .ok (.iadd, 1) := by decide +kernel
theorem dX3_gathered_94 : decode cX3_gathered 94 = .ok (.invokestatic 172, 3) := by decide +kernel
theorem dX3_gathered_97 : decode cX3_gathered 97 = .ok (.istore 5, 2) := by decide +kernel
theorem dX3_gathered_99 : decode cX3_gathered 99 = .ok (.iinc 8 1, 3) := by decide +kernel
theorem dX3_gathered_102 : decode cX3_gathered 102 = .ok (.goto (-77), 3) := by decide +kernel
theorem dX3_gathered_105 : decode cX3_gathered 105 = .ok (.iinc 6 1, 3) := by decide +kernel
theorem dX3_gathered_108 : decode cX3_gathered 108 = .ok (.goto (-100), 3) := by decide +kernel
theorem dX3_gathered_111 : decode cX3_gathered 111 = .ok (.iload 5, 2) := by decide +kernel
theorem dX3_gathered_113 : decode cX3_gathered 113 = .ok (.ireturn, 1) := by decide +kernel
theorem dX3_joined_0 : decode cX3_joined 0 = .ok (.iload_n 0, 1) := by decide +kernel
theorem dX3_joined_1 : decode cX3_joined 1 = .ok (.bipush 20, 2) := by decide +kernel
theorem dX3_joined_3 : decode cX3_joined 3 = .ok (.ishr, 1) := by decide +kernel
theorem dX3_joined_4 : decode cX3_joined 4 = .ok (.iload_n 1, 1) := by decide +kernel
theorem dX3_joined_5 : decode cX3_joined 5 = .ok (.bipush 20, 2) := by decide +kernel
theorem dX3_joined_7 : decode cX3_joined 7 = .ok (.ishr, 1) := by decide +kernel
theorem dX3_joined_8 : decode cX3_joined 8 = .ok (.if_icmp .eq 14, 3) := by decide +kernel
theorem dX3_joined_11 : decode cX3_joined 11 = .ok (.iload_n 0, 1) := by decide +kernel
theorem dX3_joined_12 : decode cX3_joined 12 = .ok (.iload_n 1, 1) := by decide +kernel
theorem dX3_joined_13 : decode cX3_joined 13 = .ok (.if_icmp .ge 7, 3) := by decide +kernel
theorem dX3_joined_16 : decode cX3_joined 16 = .ok (.iload_n 0, 1) := by decide +kernel
theorem dX3_joined_17 : decode cX3_joined 17 = .ok (.goto 4, 3) := by decide +kernel
theorem dX3_joined_20 : decode cX3_joined 20 = .ok (.iload_n 1, 1) := by decide +kernel
theorem dX3_joined_21 : decode cX3_joined 21 = .ok (.ireturn, 1) := by decide +kernel
theorem dX3_joined_22 : decode cX3_joined 22 = .ok (.iload_n 0, 1) := by decide +kernel
theorem dX3_joined_23 : decode cX3_joined 23 = .ok (.ldc 59, 2) := by decide +kernel
theorem dX3_joined_25 : decode cX3_joined 25 = .ok (.iand, 1) := by decide +kernel
theorem dX3_joined_26 : decode cX3_joined 26 = .ok (.iload_n 1, 1) := by decide +kernel
theorem dX3_joined_27 : decode cX3_joined 27 = .ok (.ldc 59, 2) := by decide +kernel
theorem dX3_joined_29 : decode cX3_joined 29 = .ok (.iand, 1) := by decide +kernel
theorem dX3_joined_30 : decode cX3_joined 30 = .ok (.iadd, 1) := by decide +kernel
theorem dX3_joined_31 : decode cX3_joined 31 = .ok (.ldc 175, 2) := by decide +kernel
theorem dX3_joined_33 : decode cX3_joined 33 = .ok (.irem, 1) := by decide +kernel
theorem dX3_joined_34 : decode cX3_joined 34 = .ok (.istore_n 2, 1) := by decide +kernel
theorem dX3_joined_35 : decode cX3_joined 35 = .ok (.iload_n 0, 1) := by decide +kernel
theorem dX3_joined_36 : decode cX3_joined 36 = .ok (.ldc 176, 2) := by decide +kernel
theorem dX3_joined_38 : decode cX3_joined 38 = .ok (.iand, 1) := by decide +kernel
theorem dX3_joined_39 : decode cX3_joined 39 = .ok (.iload_n 2, 1) := by decide +kernel
theorem dX3_joined_40 : decode cX3_joined 40 = .ok (.ior, 1) := by decide +kernel
theorem dX3_joined_41 : decode cX3_joined 41 = .ok (.ireturn, 1) := by decide +kernel
theorem dX3_howManyScored_0 : decode cX3_howManyScored 0 = .ok (.iconst 0, 1) := by decide +kernel
theorem dX3_howManyScored_1 : decode cX3_howManyScored 1 = .ok (.istore_n 1, 1) := by decide +kernel
theorem dX3_howManyScored_2 : decode cX3_howManyScored 2 = .ok (.iconst 0, 1) := by decide +kernel
theorem dX3_howManyScored_3 : decode cX3_howManyScored 3 = .ok (.istore_n 2, 1) := by decide +kernel
theorem dX3_howManyScored_4 : decode cX3_howManyScored 4 = .ok (.iload_n 2, 1) := by decide +kernel
theorem dX3_howManyScored_5 : decode cX3_howManyScored 5 = .ok (.sipush 2187, 3) := by decide +kernel
theorem dX3_howManyScored_8 : decode cX3_howManyScored 8 = .ok (.if_icmp .ge 20, 3) := by decide +kernel
theorem dX3_howManyScored_11 : decode cX3_howManyScored 11 = .ok (.aload_n 0, 1) := by decide +kernel
theorem dX3_howManyScored_12 : decode cX3_howManyScored 12 = .ok (.iload_n 2, 1) := by decide +kernel
theorem dX3_howManyScored_13 : decode cX3_howManyScored 13 = .ok (.iaload, 1) := by decide +kernel
theorem dX3_howManyScored_14 : decode cX3_howManyScored 14 = .ok (.ldc 58, 2) := by decide +kernel
theorem dX3_howManyScored_16 : decode cX3_howManyScored 16 = .ok (.if_icmp .eq 6, 3) := by decide +kernel
theorem dX3_howManyScored_19 : decode cX3_howManyScored 19 = .ok (.iinc 1 1, 3) := by decide +kernel
theorem dX3_howManyScored_22 : decode cX3_howManyScored 22 = .ok (.iinc 2 1, 3) := by decide +kernel
theorem dX3_howManyScored_25 : decode cX3_howManyScored 25 = .ok (.goto (-21), 3) := by decide +kernel
theorem dX3_howManyScored_28 : decode cX3_howManyScored 28 = .ok (.iload_n 1, 1) := by decide +kernel
theorem dX3_howManyScored_29 : decode cX3_howManyScored 29 = .ok (.ireturn, 1) := by decide +kernel
set_option maxRecDepth 20000 in
theorem ggX3_bestScore_X3_joined : GoodIn wsX3_bestScore wsX3_joined := goodIn_r _ [5, 6, 7, 8] (by decide +kernel) (by decide +kernel)
set_option maxRecDepth 20000 in
theorem gX3_bestScore_X3_joined : GoodIn wsX3_bestScore (va_wsS RX3 172 yX3_joined wsX3_joined) := goodIn_app (goodIn_of _ (by decide +kernel)) ggX3_bestScore_X3_joined
theorem dX3_bestScore_0 : decode cX3_bestScore 0 = .ok (.ldc 58, 2) := by decide +kernel
theorem dX3_bestScore_2 : decode cX3_bestScore 2 = .ok (.istore_n 1, 1) := by decide +kernel
theorem dX3_bestScore_3 : decode cX3_bestScore 3 = .ok (.iconst 0, 1) := by decide +kernel
theorem dX3_bestScore_4 : decode cX3_bestScore 4 = .ok (.istore_n 2, 1) := by decide +kernel
theorem dX3_bestScore_5 : decode cX3_bestScore 5 = .ok (.iload_n 2, 1) := by decide +kernel
theorem dX3_bestScore_6 : decode cX3_bestScore 6 = .ok (.sipush 2187, 3) := by decide +kernel
theorem dX3_bestScore_9 : decode cX3_bestScore 9 = .ok (.if_icmp .ge 25, 3) := by decide +kernel
theorem dX3_bestScore_12 : decode cX3_bestScore 12 = .ok (.aload_n 0, 1) := by decide +kernel
theorem dX3_bestScore_13 : decode cX3_bestScore 13 = .ok (.iload_n 2, 1) := by decide +kernel
theorem dX3_bestScore_14 : decode cX3_bestScore 14 = .ok (.iaload, 1) := by decide +kernel
theorem dX3_bestScore_15 : decode cX3_bestScore 15 = .ok (.ldc 58, 2) := by decide +kernel
theorem dX3_bestScore_17 : decode cX3_bestScore 17 = .ok (.if_icmp .eq 11, 3) := by decide +kernel
theorem dX3_bestScore_20 : decode cX3_bestScore 20 = .ok (.iload_n 1, 1) := by decide +kernel
theorem dX3_bestScore_21 : decode cX3_bestScore 21 = .ok (.aload_n 0, 1) := by decide +kernel
theorem dX3_bestScore_22 : decode cX3_bestScore 22 = .ok (.iload_n 2, 1) := by decide +kernel
theorem dX3_bestScore_23 : decode cX3_bestScore 23 = .ok (.iaload, 1) := by decide +kernel
theorem dX3_bestScore_24 : decode cX3_bestScore 24 = .ok (.invokestatic 172, 3) := by decide +kernel
theorem dX3_bestScore_27 : decode cX3_bestScore 27 = .ok (.istore_n 1, 1) := by decide +kernel
theorem dX3_bestScore_28 : decode cX3_bestScore 28 = .ok (.iinc 2 1, 3) := by decide +kernel
theorem dX3_bestScore_31 : decode cX3_bestScore 31 = .ok (.goto (-26), 3) := by decide +kernel
theorem dX3_bestScore_34 : decode cX3_bestScore 34 = .ok (.iload_n 1, 1) := by decide +kernel
theorem dX3_bestScore_35 : decode cX3_bestScore 35 = .ok (.ireturn, 1) := by decide +kernel
theorem dX3_settingOfBestScore_0 : decode cX3_settingOfBestScore 0 = .ok (.iconst (-1), 1) := by decide +kernel
theorem dX3_settingOfBestScore_1 : decode cX3_settingOfBestScore 1 = .ok (.istore_n 1, 1) := by decide +kernel
theorem dX3_settingOfBestScore_2 : decode cX3_settingOfBestScore 2 = .ok (.sipush 1024, 3) := by decide +kernel
theorem dX3_settingOfBestScore_5 : decode cX3_settingOfBestScore 5 = .ok (.istore_n 2, 1) := by decide +kernel
theorem dX3_settingOfBestScore_6 : decode cX3_settingOfBestScore 6 = .ok (.iconst 0, 1) := by decide +kernel
theorem dX3_settingOfBestScore_7 : decode cX3_settingOfBestScore 7 = .ok (.istore_n 3, 1) := by decide +kernel
theorem dX3_settingOfBestScore_8 : decode cX3_settingOfBestScore 8 = .ok (.iload_n 3, 1) := by decide +kernel
theorem dX3_settingOfBestScore_9 : decode cX3_settingOfBestScore 9 = .ok (.sipush 2187, 3) := by decide +kernel
theorem dX3_settingOfBestScore_12 : decode cX3_settingOfBestScore 12 = .ok (.if_icmp .ge 28, 3) := by decide +kernel
theorem dX3_settingOfBestScore_15 : decode cX3_settingOfBestScore 15 = .ok (.aload_n 0, 1) := by decide +kernel
theorem dX3_settingOfBestScore_16 : decode cX3_settingOfBestScore 16 = .ok (.iload_n 3, 1) := by decide +kernel
theorem dX3_settingOfBestScore_17 : decode cX3_settingOfBestScore 17 = .ok (.iaload, 1) := by decide +kernel
theorem dX3_settingOfBestScore_18 : decode cX3_settingOfBestScore 18 = .ok (.bipush 20, 2) := by decide +kernel
theorem dX3_settingOfBestScore_20 : decode cX3_settingOfBestScore 20 = .ok (.ishr, 1) := by decide +kernel
theorem dX3_settingOfBestScore_21 : decode cX3_settingOfBestScore 21 = .ok (.iload_n 2, 1) := by decide +kernel
theorem dX3_settingOfBestScore_22 : decode cX3_settingOfBestScore 22 = .ok (.if_icmp .ge 12, 3) := by decide +kernel
theorem dX3_settingOfBestScore_25 : decode cX3_settingOfBestScore 25 = .ok (.iload_n 3, 1) := by decide +kernel
theorem dX3_settingOfBestScore_26 : decode cX3_settingOfBestScore 26 = .ok (.istore_n 1, 1) := by decide +kernel
theorem dX3_settingOfBestScore_27 : decode cX3_settingOfBestScore 27 = .ok (.aload_n 0, 1) := by decide +kernel
theorem dX3_settingOfBestScore_28 : decode cX3_settingOfBestScore 28 = .ok (.iload_n 3, 1) := by decide +kernel
theorem dX3_settingOfBestScore_29 : decode cX3_settingOfBestScore 29 = .ok (.iaload, 1) := by decide +kernel
theorem dX3_settingOfBestScore_30 : decode cX3_settingOfBestScore 30 = .ok (.bipush 20, 2) := by decide +kernel
theorem dX3_settingOfBestScore_32 : decode cX3_settingOfBestScore 32 = .ok (.ishr, 1) := by decide +kernel
theorem dX3_settingOfBestScore_33 : decode cX3_settingOfBestScore 33 = .ok (.istore_n 2, 1) := by decide +kernel
theorem dX3_settingOfBestScore_34 : decode cX3_settingOfBestScore 34 = .ok (.iinc 3 1, 3) := by decide +kernel
theorem dX3_settingOfBestScore_37 : decode cX3_settingOfBestScore 37 = .ok (.goto (-29), 3) := by decide +kernel
theorem dX3_settingOfBestScore_40 : decode cX3_settingOfBestScore 40 = .ok (.iload_n 1, 1) := by decide +kernel
theorem dX3_settingOfBestScore_41 : decode cX3_settingOfBestScore 41 = .ok (.ireturn, 1) := by decide +kernel
set_option maxRecDepth 20000 in
theorem ggX4_init_X0_init : GoodIn wsX4_init wsX0_init := goodIn_r _ [10, 11, 2, 3] (by decide +kernel) (by decide +kernel)
set_option maxRecDepth 20000 in
theorem gX4_init_X0_init_n11 : GoodIn wsX4_init (wsX0_init) := ggX4_init_X0_init
theorem dX4_init_0 : decode cX4_init 0 = .ok (.aload_n 0, 1) := by decide +kernel
theorem dX4_init_1 : decode cX4_init 1 = .ok (.invokespecial 3, 3) := by decide +kernel
theorem dX4_init_4 : decode cX4_init 4 = .ok (.aload_n 0, 1) := by decide +kernel
theorem dX4_init_5 : decode cX4_init 5 = .ok (.new 9, 3) := by decide +kernel
theorem dX4_init_8 : decode cX4_init 8 = .ok (.dup, 1) := by decide +kernel
theorem dX4_init_9 : decode cX4_init 9 = .ok (.invokespecial 11, 3) := by decide +kernel
theorem dX4_init_12 : decode cX4_init 12 = .ok (.putfield 12, 3) := by decide +kernel
theorem dX4_init_15 : decode cX4_init 15 = .ok (.aload_n 0, 1) := by decide +kernel
theorem dX4_init_16 : decode cX4_init 16 = .ok (.aload_n 1, 1) := by decide +kernel
theorem dX4_init_17 : decode cX4_init 17 = .ok (.putfield 18, 3) := by decide +kernel
theorem dX4_init_20 : decode cX4_init 20 = .ok (.return_, 1) := by decide +kernel
set_option maxRecDepth 20000 in
theorem ggX4_playDrawn_X0_set : GoodIn wsX4_playDrawn wsX0_set := goodIn_r _ [10, 11, 12, 13, 14, 15, 16, 17, 54, 55] (by decide +kernel) (by decide +kernel)
set_option maxRecDepth 20000 in
theorem gX4_playDrawn_X0_set : GoodIn wsX4_playDrawn (wsV RX4 35 RX0 yX0_set wsX0_set) := goodIn_app (goodIn_of _ (by decide +kernel)) ggX4_playDrawn_X0_set
set_option maxRecDepth 20000 in
theorem ggX4_playDrawn_X4_nextDraw : GoodIn wsX4_playDrawn wsX4_nextDraw := goodIn_r _ [22, 23, 1, 24, 25, 26, 48, 49, 50, 51, 52, 53] (by decide +kernel) (by decide +kernel)
set_option maxRecDepth 20000 in
theorem gX4_playDrawn_X4_nextDraw : GoodIn wsX4_playDrawn (wsV RX4 39 RX4 yX4_nextDraw wsX4_nextDraw) := goodIn_app (goodIn_of _ (by decide +kernel)) ggX4_playDrawn_X4_nextDraw
set_option maxRecDepth 20000 in
theorem ggX4_playDrawn_X4_playChord : GoodIn wsX4_playDrawn wsX4_playChord := goodIn_r _ [30, 31, 5, 2, 3, 4, 32, 33, 34, 15, 35, 36, 37, 38, 39, 9, 40, 11, 41, 42, 43, 44, 45, 46, 47, 12, 48, 49, 50, 51, 52, 53, 56, 54, 55] (by decide +kernel) (by decide +kernel)
set_option maxRecDepth 20000 in
theorem gX4_playDrawn_X4_playChord : GoodIn wsX4_playDrawn (wsV RX4 43 RX4 yX4_playChord wsX4_playChord) := goodIn_app (goodIn_of _ (by decide +kernel)) ggX4_playDrawn_X4_playChord
theorem dX4_playDrawn_0 : decode cX4_playDrawn 0 = .ok (.aload_n 0, 1) := by decide +kernel
theorem dX4_playDrawn_1 : decode cX4_playDrawn 1 = .ok (.iload_n 3, 1) := by decide +kernel
theorem dX4_playDrawn_2 : decode cX4_playDrawn 2 = .ok (.putfield 22, 3) := by decide +kernel
theorem dX4_playDrawn_5 : decode cX4_playDrawn 5 = .ok (.aload_n 0, 1) := by decide +kernel
theorem dX4_playDrawn_6 : decode cX4_playDrawn 6 = .ok (.iload_n 1, 1) := by decide +kernel
theorem dX4_playDrawn_7 : decode cX4_playDrawn 7 = .ok (.putfield 26, 3) := by decide +kernel
theorem dX4_playDrawn_10 : decode cX4_playDrawn 10 = .ok (.aload_n 0, 1) := by decide +kernel
theorem dX4_playDrawn_11 : decode cX4_playDrawn 11 = .ok (.iconst 0, 1) := by decide +kernel
theorem dX4_playDrawn_12 : decode cX4_playDrawn 12 = .ok (.putfield 29, 3) := by decide +kernel
theorem dX4_playDrawn_15 : decode cX4_playDrawn 15 = .ok (.aload_n 0, 1) := by decide +kernel
theorem dX4_playDrawn_16 : decode cX4_playDrawn 16 = .ok (.iconst 0, 1) := by decide +kernel
theorem dX4_playDrawn_17 : decode cX4_playDrawn 17 = .ok (.putfield 32, 3) := by decide +kernel
theorem dX4_playDrawn_20 : decode cX4_playDrawn 20 = .ok (.aload_n 0, 1) := by decide +kernel
theorem dX4_playDrawn_21 : decode cX4_playDrawn 21 = .ok (.getfield 12, 3) := by decide +kernel
theorem dX4_playDrawn_24 : decode cX4_playDrawn 24 = .ok (.iconst 0, 1) := by decide +kernel
theorem dX4_playDrawn_25 : decode cX4_playDrawn 25 = .ok (.iconst 0, 1) := by decide +kernel
theorem dX4_playDrawn_26 : decode cX4_playDrawn 26 = .ok (.invokevirtual 35, 3) := by decide +kernel
theorem dX4_playDrawn_29 : decode cX4_playDrawn 29 = .ok (.iconst 0, 1) := by decide +kernel
theorem dX4_playDrawn_30 : decode cX4_playDrawn 30 = .ok (.istore 4, 2) := by decide +kernel
theorem dX4_playDrawn_32 : decode cX4_playDrawn 32 = .ok (.iload 4, 2) := by decide +kernel
theorem dX4_playDrawn_34 : decode cX4_playDrawn 34 = .ok (.iload_n 2, 1) := by decide +kernel
theorem dX4_playDrawn_35 : decode cX4_playDrawn 35 = .ok (.if_icmp .ge 48, 3) := by decide +kernel
theorem dX4_playDrawn_38 : decode cX4_playDrawn 38 = .ok (.aload_n 0, 1) := by decide +kernel
theorem dX4_playDrawn_39 : decode cX4_playDrawn 39 = .ok (.invokevirtual 39, 3) := by decide +kernel
theorem dX4_playDrawn_42 : decode cX4_playDrawn 42 = .ok (.bipush 12, 2) := by decide +kernel
theorem dX4_playDrawn_44 : decode cX4_playDrawn 44 = .ok (.irem, 1) := by decide +kernel
theorem dX4_playDrawn_45 : decode cX4_playDrawn 45 = .ok (.istore 5, 2) := by decide +kernel
theorem dX4_playDrawn_47 : decode cX4_playDrawn 47 = .ok (.iload 5, 2) := by decide +kernel
theorem dX4_playDrawn_49 : decode cX4_playDrawn 49 = .ok (.aload_n 0, 1) := by decide +kernel
theorem dX4_playDrawn_50 : decode cX4_playDrawn 50 = .ok (.invokevirtual 39, 3) := by decide +kernel
theorem dX4_playDrawn_53 : decode cX4_playDrawn 53 = .ok (.bipush 11, 2) := by decide +kernel
theorem dX4_playDrawn_55 : decode cX4_playDrawn 55 = .ok (.irem, 1) := by decide +kernel
theorem dX4_playDrawn_56 : decode cX4_playDrawn 56 = .ok (.iadd, 1) := by decide +kernel
theorem dX4_playDrawn_57 : decode cX4_playDrawn 57 = .ok (.iconst 1, 1) := by decide +kernel
theorem dX4_playDrawn_58 : decode cX4_playDrawn 58 = .ok (.iadd, 1) := by decide +kernel
theorem dX4_playDrawn_59 : decode cX4_playDrawn 59 = .ok (.bipush 12, 2) := by decide +kernel
theorem dX4_playDrawn_61 : decode cX4_playDrawn 61 = .ok (.irem, 1) := by decide +kernel
theorem dX4_playDrawn_62 : decode cX4_playDrawn 62 = .ok (.istore 6, 2) := by decide +kernel
theorem dX4_playDrawn_64 : decode cX4_playDrawn 64 = .ok (.aload_n 0, 1) := by decide +kernel
theorem dX4_playDrawn_65 : decode cX4_playDrawn 65 = .ok (.iconst 1, 1) := by decide +kernel
theorem dX4_playDrawn_66 : decode cX4_playDrawn 66 = .ok (.iload 5, 2) := by decide +kernel
theorem dX4_playDrawn_68 : decode cX4_playDrawn 68 = .ok (.ishl, 1) := by decide +kernel
theorem dX4_playDrawn_69 : decode cX4_playDrawn 69 = .ok (.iconst 1, 1) := by decide +kernel
theorem dX4_playDrawn_70 : decode cX4_playDrawn 70 = .ok (.iload 6, 2) := by decide +kernel
theorem dX4_playDrawn_72 : decode cX4_playDrawn 72 = .ok (.ishl, 1) := by decide +kernel
theorem dX4_playDrawn_73 : decode cX4_playDrawn 73 = .ok (.ior, 1) := by decide +kernel
theorem dX4_playDrawn_74 : decode cX4_playDrawn 74 = .ok (.invokevirtual 43, 3) := by decide +kernel
theorem dX4_playDrawn_77 : decode cX4_playDrawn 77 = .ok (.iinc 4 1, 3) := by decide +kernel
theorem dX4_playDrawn_80 : decode cX4_playDrawn 80 = .ok (.goto (-48), 3) := by decide +kernel
theorem dX4_playDrawn_83 : decode cX4_playDrawn 83 = .ok (.return_, 1) := by decide +kernel
set_option maxRecDepth 20000 in
theorem ggX4_playChord_X7_fits : GoodIn wsX4_playChord wsX7_fits := goodIn_r _ [10, 11, 32] (by decide +kernel) (by decide +kernel)
set_option maxRecDepth 20000 in
theorem gX4_playChord_X7_fits : GoodIn wsX4_playChord (wsV RX4 47 RX7 yX7_fits wsX7_fits) := goodIn_app (goodIn_of _ (by decide +kernel)) ggX4_playChord_X7_fits
set_option maxRecDepth 20000 in
theorem ggX4_playChord_X0_movesBetween : GoodIn wsX4_playChord wsX0_movesBetween := goodIn_r _ [16, 17, 18, 19, 9, 20, 21, 22, 23, 15, 24, 25, 33, 34] (by decide +kernel) (by decide +kernel)
set_option maxRecDepth 20000 in
theorem gX4_playChord_X0_movesBetween : GoodIn wsX4_playChord (wsV RX4 53 RX0 yX0_movesBetween wsX0_movesBetween) := goodIn_app (goodIn_of _ (by decide +kernel)) ggX4_playChord_X0_movesBetween
theorem dX4_playChord_0 : decode cX4_playChord 0 = .ok (.iconst (-1), 1) := by decide +kernel
theorem dX4_playChord_1 : decode cX4_playChord 1 = .ok (.istore_n 2, 1) := by decide +kernel
theorem dX4_playChord_2 : decode cX4_playChord 2 = .ok (.bipush 7, 2) := by decide +kernel
theorem dX4_playChord_4 : decode cX4_playChord 4 = .ok (.istore_n 3, 1) := by decide +kernel
theorem dX4_playChord_5 : decode cX4_playChord 5 = .ok (.iconst 0, 1) := by decide +kernel
theorem dX4_playChord_6 : decode cX4_playChord 6 = .ok (.istore 4, 2) := by decide +kernel
theorem dX4_playChord_8 : decode cX4_playChord 8 = .ok (.iload 4, 2) := by decide +kernel
theorem dX4_playChord_10 : decode cX4_playChord 10 = .ok (.sipush 2187, 3) := by decide +kernel
theorem dX4_playChord_13 : decode cX4_playChord 13 = .ok (.if_icmp .ge 56, 3) := by decide +kernel
theorem dX4_playChord_16 : decode cX4_playChord 16 = .ok (.aload_n 0, 1) := by decide +kernel
theorem dX4_playChord_17 : decode cX4_playChord 17 = .ok (.getfield 18, 3) := by decide +kernel
theorem dX4_playChord_20 : decode cX4_playChord 20 = .ok (.iload 4, 2) := by decide +kernel
theorem dX4_playChord_22 : decode cX4_playChord 22 = .ok (.iconst 0, 1) := by decide +kernel
theorem dX4_playChord_23 : decode cX4_playChord 23 = .ok (.iload_n 1, 1) := by decide +kernel
theorem dX4_playChord_24 : decode cX4_playChord 24 = .ok (.invokevirtual 47, 3) := by decide +kernel
theorem dX4_playChord_27 : decode cX4_playChord 27 = .ok (.ifCond .eq 36, 3) := by decide +kernel
theorem dX4_playChord_30 : decode cX4_playChord 30 = .ok (.aload_n 0, 1) := by decide +kernel
theorem dX4_playChord_31 : decode cX4_playChord 31 = .ok (.getfield 12, 3) := by decide +kernel
theorem dX4_playChord_34 : decode cX4_playChord 34 = .ok (.aload_n 0, 1) := by decide +kernel
theorem dX4_playChord_35 : decode cX4_playChord 35 = .ok (.getfield 26, 3) := by decide +kernel
theorem dX4_playChord_38 : decode cX4_playChord 38 = .ok (.iload 4, 2) := by decide +kernel
theorem dX4_playChord_40 : decode cX4_playChord 40 = .ok (.invokevirtual 53, 3) := by decide +kernel
theorem dX4_playChord_43 : decode cX4_playChord 43 = .ok (.istore 5, 2) := by decide +kernel
theorem dX4_playChord_45 : decode cX4_playChord 45 = .ok (.iload 5, 2) := by decide +kernel
theorem dX4_playChord_47 : decode cX4_playChord 47 = .ok (.iconst (-1), 1) := by decide +kernel
theorem dX4_playChord_48 : decode cX4_playChord 48 = .ok (.if_icmp .eq 15, 3) := by decide +kernel
theorem dX4_playChord_51 : decode cX4_playChord 51 = .ok (.iload 5, 2) := by decide +kernel
theorem dX4_playChord_53 : decode cX4_playChord 53 = .ok (.iload_n 3, 1) := by decide +kernel
theorem dX4_playChord_54 : decode cX4_playChord 54 = .ok (.if_icmp .ge 9, 3) := by decide +kernel
theorem dX4_playChord_57 : decode cX4_playChord 57 = .ok (.iload 4, 2) := by decide +kernel
theorem dX4_playChord_59 : decode cX4_playChord 59 = .ok (.istore_n 2, 1) := by decide +kernel
theorem dX4_playChord_60 : decode cX4_playChord 60 = .ok (.iload 5, 2) := by decide +kernel
theorem dX4_playChord_62 : decode cX4_playChord 62 = .ok (.istore_n 3, 1) := by decide +kernel
theorem dX4_playChord_63 : decode cX4_playChord 63 = .ok (.iinc 4 1, 3) := by decide +kernel
theorem dX4_playChord_66 : decode cX4_playChord 66 = .ok (.goto (-58), 3) := by decide +kernel
theorem dX4_playChord_69 : decode cX4_playChord 69 = .ok (.iload_n 2, 1) := by decide +kernel
theorem dX4_playChord_70 : decode cX4_playChord 70 = .ok (.iconst (-1), 1) := by decide +kernel
theorem dX4_playChord_71 : decode cX4_playChord 71 = .ok (.if_icmp .eq 28, 3) := by decide +kernel
theorem dX4_playChord_74 : decode cX4_playChord 74 = .ok (.aload_n 0, 1) := by decide +kernel
theorem dX4_playChord_75 : decode cX4_playChord 75 = .ok (.iload_n 2, 1) := by decide +kernel
theorem dX4_playChord_76 : decode cX4_playChord 76 = .ok (.putfield 26, 3) := by decide +kernel
theorem dX4_playChord_79 : decode cX4_playChord 79 = .ok (.aload_n 0, 1) := by decide +kernel
theorem dX4_playChord_80 : decode cX4_playChord 80 = .ok (.dup, 1) := by decide +kernel
theorem dX4_playChord_81 : decode cX4_playChord 81 = .ok (.getfield 29, 3) := by decide +kernel
theorem dX4_playChord_84 : decode cX4_playChord 84 = .ok (.iconst 1, 1) := by decide +kernel
theorem dX4_playChord_85 : decode cX4_playChord 85 = .ok (.iadd, 1) := by decide +kernel
theorem dX4_playChord_86 : decode cX4_playChord 86 = .ok (.putfield 29, 3) := by decide +kernel
theorem dX4_playChord_89 : decode cX4_playChord 89 = .ok (.aload_n 0, 1) := by decide +kernel
theorem dX4_playChord_90 : decode cX4_playChord 90 = .ok (.dup, 1) := by decide +kernel
theorem dX4_playChord_91 : decode cX4_playChord 91 = .ok (.getfield 32, 3) := by decide +kernel
theorem dX4_playChord_94 : decode cX4_playChord 94 = .ok (.iload_n 3, 1) := by decide +kernel
theorem dX4_playChord_95 : decode cX4_playChord 95 = .ok (.iadd, 1) := by decide +kernel
theorem dX4_playChord_96 : decode cX4_playChord 96 = .ok (.putfield 32, 3) := by decide +kernel
theorem dX4_playChord_99 : decode cX4_playChord 99 = .ok (.return_, 1) := by decide +kernel
theorem dX4_nextDraw_0 : decode cX4_nextDraw 0 = .ok (.aload_n 0, 1) := by decide +kernel
theorem dX4_nextDraw_1 : decode cX4_nextDraw 1 = .ok (.ldc2_w 57, 3) := by decide +kernel
theorem dX4_nextDraw_4 : decode cX4_nextDraw 4 = .ok (.aload_n 0, 1) := by decide +kernel
theorem dX4_nextDraw_5 : decode cX4_nextDraw 5 = .ok (.getfield 22, 3) := by decide +kernel
theorem dX4_nextDraw_8 : decode cX4_nextDraw 8 = .ok (.i2l, 1) := by decide +kernel
theorem dX4_nextDraw_9 : decode cX4_nextDraw 9 = .ok (.lmul, 1) := by decide +kernel
theorem dX4_nextDraw_10 : decode cX4_nextDraw 10 = .ok (.ldc2_w 59, 3) := by decide +kernel
theorem dX4_nextDraw_13 : decode cX4_nextDraw 13 = .ok (.ladd, 1) := by decide +kernel
theorem dX4_nextDraw_14 : decode cX4_nextDraw 14 = .ok (.ldc2_w 63, 3) := by decide +kernel
theorem dX4_nextDraw_17 : decode cX4_nextDraw 17 = .ok (.land, 1) := by decide +kernel
theorem dX4_nextDraw_18 : decode cX4_nextDraw 18 = .ok (.l2i, 1) := by decide +kernel
theorem dX4_nextDraw_19 : decode cX4_nextDraw 19 = .ok (.putfield 22, 3) := by decide +kernel
theorem dX4_nextDraw_22 : decode cX4_nextDraw 22 = .ok (.aload_n 0, 1) := by decide +kernel
theorem dX4_nextDraw_23 : decode cX4_nextDraw 23 = .ok (.getfield 22, 3) := by decide +kernel
theorem dX4_nextDraw_26 : decode cX4_nextDraw 26 = .ok (.ldc 65, 2) := by decide +kernel
theorem dX4_nextDraw_28 : decode cX4_nextDraw 28 = .ok (.idiv, 1) := by decide +kernel
theorem dX4_nextDraw_29 : decode cX4_nextDraw 29 = .ok (.ireturn, 1) := by decide +kernel
set_option maxRecDepth 20000 in
theorem ggX5_init_X2_init : GoodIn wsX5_init wsX2_init := goodIn_r _ [9, 10, 2, 3, 11, 12, 13, 14, 15, 16, 17] (by decide +kernel) (by decide +kernel)
set_option maxRecDepth 20000 in
theorem gX5_init_X2_init_n11 : GoodIn wsX5_init (wsX2_init) := ggX5_init_X2_init
theorem dX5_init_0 : decode cX5_init 0 = .ok (.aload_n 0, 1) := by decide +kernel
theorem dX5_init_1 : decode cX5_init 1 = .ok (.invokespecial 3, 3) := by decide +kernel
theorem dX5_init_4 : decode cX5_init 4 = .ok (.aload_n 0, 1) := by decide +kernel
theorem dX5_init_5 : decode cX5_init 5 = .ok (.new 9, 3) := by decide +kernel
theorem dX5_init_8 : decode cX5_init 8 = .ok (.dup, 1) := by decide +kernel
theorem dX5_init_9 : decode cX5_init 9 = .ok (.invokespecial 11, 3) := by decide +kernel
theorem dX5_init_12 : decode cX5_init 12 = .ok (.putfield 12, 3) := by decide +kernel
theorem dX5_init_15 : decode cX5_init 15 = .ok (.return_, 1) := by decide +kernel
set_option maxRecDepth 20000 in
theorem ggX5_restart_X2_clear : GoodIn wsX5_restart wsX2_clear := goodIn_r _ [8, 9, 10, 14, 15, 16, 17] (by decide +kernel) (by decide +kernel)
set_option maxRecDepth 20000 in
theorem gX5_restart_X2_clear : GoodIn wsX5_restart (wsV RX5 18 RX2 yX2_clear wsX2_clear) := goodIn_app (goodIn_of _ (by decide +kernel)) ggX5_restart_X2_clear
theorem dX5_restart_0 : decode cX5_restart 0 = .ok (.aload_n 0, 1) := by decide +kernel
theorem dX5_restart_1 : decode cX5_restart 1 = .ok (.getfield 12, 3) := by decide +kernel
theorem dX5_restart_4 : decode cX5_restart 4 = .ok (.invokevirtual 18, 3) := by decide +kernel
theorem dX5_restart_7 : decode cX5_restart 7 = .ok (.aload_n 0, 1) := by decide +kernel
theorem dX5_restart_8 : decode cX5_restart 8 = .ok (.iconst 0, 1) := by decide +kernel
theorem dX5_restart_9 : decode cX5_restart 9 = .ok (.putfield 21, 3) := by decide +kernel
theorem dX5_restart_12 : decode cX5_restart 12 = .ok (.aload_n 0, 1) := by decide +kernel
theorem dX5_restart_13 : decode cX5_restart 13 = .ok (.iconst 1, 1) := by decide +kernel
theorem dX5_restart_14 : decode cX5_restart 14 = .ok (.putfield 25, 3) := by decide +kernel
theorem dX5_restart_17 : decode cX5_restart 17 = .ok (.return_, 1) := by decide +kernel
set_option maxRecDepth 20000 in
theorem ggX5_accept_X5_acceptPosition : GoodIn wsX5_accept wsX5_acceptPosition := goodIn_r _ [7, 8, 9, 10, 11, 50, 51, 52, 53, 54, 55, 56] (by decide +kernel) (by decide +kernel)
set_option maxRecDepth 20000 in
theorem gX5_accept_X5_acceptPosition : GoodIn wsX5_accept (wsV RX5 29 RX5 yX5_acceptPosition wsX5_acceptPosition) := goodIn_app (goodIn_of _ (by decide +kernel)) ggX5_accept_X5_acceptPosition
set_option maxRecDepth 20000 in
theorem ggX5_accept_X5_acceptKind : GoodIn wsX5_accept wsX5_acceptKind := goodIn_r _ [15, 2, 8, 16, 17, 6, 18, 19, 20, 21, 22, 23, 24, 25, 26, 50, 51, 52, 53, 54, 55, 56] (by decide +kernel) (by decide +kernel)
set_option maxRecDepth 20000 in
theorem gX5_accept_X5_acceptKind : GoodIn wsX5_accept (wsV RX5 33 RX5 yX5_acceptKind wsX5_acceptKind) := goodIn_app (goodIn_of _ (by decide +kernel)) ggX5_accept_X5_acceptKind
set_option maxRecDepth 20000 in
theorem ggX5_accept_X5_acceptTone : GoodIn wsX5_accept wsX5_acceptTone := goodIn_r _ [30, 8, 31, 32, 33, 22, 34, 24, 26, 35, 36, 37, 38, 39, 40, 41, 42, 43, 44, 45, 50, 51, 52, 53, 54, 55, 56] (by decide +kernel) (by decide +kernel)
set_option maxRecDepth 20000 in
theorem gX5_accept_X5_acceptTone : GoodIn wsX5_accept (wsV RX5 36 RX5 yX5_acceptTone wsX5_acceptTone) := goodIn_app (goodIn_of _ (by decide +kernel)) ggX5_accept_X5_acceptTone
set_option maxRecDepth 20000 in
theorem ggX5_accept_X5_acceptComma : GoodIn wsX5_accept wsX5_acceptComma := goodIn_r _ [49, 8, 2, 31, 32, 33, 22, 34, 24, 26, 50, 51, 52, 53, 54, 55, 56] (by decide +kernel) (by decide +kernel)
set_option maxRecDepth 20000 in
theorem gX5_accept_X5_acceptComma : GoodIn wsX5_accept (wsV RX5 39 RX5 yX5_acceptComma wsX5_acceptComma) := goodIn_app (goodIn_of _ (by decide +kernel)) ggX5_accept_X5_acceptComma
theorem dX5_accept_0 : decode cX5_accept 0 = .ok (.aload_n 0, 1) := by decide +kernel
theorem dX5_accept_1 : decode cX5_accept 1 = .ok (.getfield 21, 3) := by decide +kernel
theorem dX5_accept_4 : decode cX5_accept 4 = .ok (.bipush 7, 2) := by decide +kernel
theorem dX5_accept_6 : decode cX5_accept 6 = .ok (.if_icmp .ge 12, 3) := by decide +kernel
theorem dX5_accept_9 : decode cX5_accept 9 = .ok (.aload_n 0, 1) := by decide +kernel
theorem dX5_accept_10 : decode cX5_accept 10 = .ok (.iload_n 1, 1) := by decide +kernel
theorem dX5_accept_11 : decode cX5_accept 11 = .ok (.invokevirtual 29, 3) := by decide +kernel
theorem dX5_accept_14 : decode cX5_accept 14 = .ok (.istore_n 2, 1) := by decide +kernel
theorem dX5_accept_15 : decode cX5_accept 15 = .ok (.goto 65, 3) := by decide +kernel
theorem dX5_accept_18 : decode cX5_accept 18 = .ok (.aload_n 0, 1) := by decide +kernel
theorem dX5_accept_19 : decode cX5_accept 19 = .ok (.getfield 21, 3) := by decide +kernel
theorem dX5_accept_22 : decode cX5_accept 22 = .ok (.bipush 7, 2) := by decide +kernel
theorem dX5_accept_24 : decode cX5_accept 24 = .ok (.if_icmp .ne 18, 3) := by decide +kernel
theorem dX5_accept_27 : decode cX5_accept 27 = .ok (.iload_n 1, 1) := by decide +kernel
theorem dX5_accept_28 : decode cX5_accept 28 = .ok (.bipush 59, 2) := by decide +kernel
theorem dX5_accept_30 : decode cX5_accept 30 = .ok (.if_icmp .ne 7, 3) := by decide +kernel
theorem dX5_accept_33 : decode cX5_accept 33 = .ok (.iconst 1, 1) := by decide +kernel
theorem dX5_accept_34 : decode cX5_accept 34 = .ok (.goto 4, 3) := by decide +kernel
theorem dX5_accept_37 : decode cX5_accept 37 = .ok (.iconst 0, 1) := by decide +kernel
theorem dX5_accept_38 : decode cX5_accept 38 = .ok (.istore_n 2, 1) := by decide +kernel
theorem dX5_accept_39 : decode cX5_accept 39 = .ok (.goto 41, 3) := by decide +kernel
theorem dX5_accept_42 : decode cX5_accept 42 = .ok (.aload_n 0, 1) := by decide +kernel
theorem dX5_accept_43 : decode cX5_accept 43 = .ok (.getfield 25, 3) := by decide +kernel
theorem dX5_accept_46 : decode cX5_accept 46 = .ok (.ifCond .eq 12, 3) := by decide +kernel
theorem dX5_accept_49 : decode cX5_accept 49 = .ok (.aload_n 0, 1) := by decide +kernel
theorem dX5_accept_50 : decode cX5_accept 50 = .ok (.iload_n 1, 1) := by decide +kernel
theorem dX5_accept_51 : decode cX5_accept 51 = .ok (.invokevirtual 33, 3) := by decide +kernel
theorem dX5_accept_54 : decode cX5_accept 54 = .ok (.istore_n 2, 1) := by decide +kernel
theorem dX5_accept_55 : decode cX5_accept 55 = .ok (.goto 25, 3) := by decide +kernel
theorem dX5_accept_58 : decode cX5_accept 58 = .ok (.aload_n 0, 1) := by decide +kernel
theorem dX5_accept_59 : decode cX5_accept 59 = .ok (.iload_n 1, 1) := by decide +kernel
theorem dX5_accept_60 : decode cX5_accept 60 = .ok (.invokevirtual 36, 3) := by decide +kernel
theorem dX5_accept_63 : decode cX5_accept 63 = .ok (.ifCond .ne 11, 3) := by decide +kernel
theorem dX5_accept_66 : decode cX5_accept 66 = .ok (.aload_n 0, 1) := by decide +kernel
theorem dX5_accept_67 : decode cX5_accept 67 = .ok (.iload_n 1, 1) := by decide +kernel
theorem dX5_accept_68 : decode cX5_accept 68 = .ok (.invokevirtual 39, 3) := by decide +kernel
theorem dX5_accept_71 : decode cX5_accept 71 = .ok (.ifCond .eq 7, 3) := by decide +kernel
theorem dX5_accept_74 : decode cX5_accept 74 = .ok (.iconst 1, 1) := by decide +kernel
theorem dX5_accept_75 : decode cX5_accept 75 = .ok (.goto 4, 3) := by decide +kernel
theorem dX5_accept_78 : decode cX5_accept 78 = .ok (.iconst 0, 1) := by decide +kernel
theorem dX5_accept_79 : decode cX5_accept 79 = .ok (.istore_n 2, 1) := by decide +kernel
theorem dX5_accept_80 : decode cX5_accept 80 = .ok (.iload_n 2, 1) := by decide +kernel
theorem dX5_accept_81 : decode cX5_accept 81 = .ok (.ifCond .eq 13, 3) := by decide +kernel
theorem dX5_accept_84 : decode cX5_accept 84 = .ok (.aload_n 0, 1) := by decide +kernel
theorem dX5_accept_85 : decode cX5_accept 85 = .ok (.dup, 1) := by decide +kernel
theorem dX5_accept_86 : decode cX5_accept 86 = .ok (.getfield 21, 3) := by decide +kernel
theorem dX5_accept_89 : decode cX5_accept 89 = .ok (.iconst 1, 1) := by decide +kernel
theorem dX5_accept_90 : decode cX5_accept 90 = .ok (.iadd, 1) := by decide +kernel
theorem dX5_accept_91 : decode cX5_accept 91 = .ok (.putfield 21, 3) := by decide +kernel
theorem dX5_accept_94 : decode cX5_accept 94 = .ok (.iload_n 2, 1) := by decide +kernel
theorem dX5_accept_95 : decode cX5_accept 95 = .ok (.ireturn, 1) := by decide +kernel
set_option maxRecDepth 20000 in
theorem ggX5_isWhole_X2_tonesOfLast : GoodIn wsX5_isWhole wsX2_tonesOfLast := goodIn_r _ [7, 8, 9, 13, 14, 15, 16] (by decide +kernel) (by decide +kernel)
set_option maxRecDepth 20000 in
theorem gX5_isWhole_X2_tonesOfLast : GoodIn wsX5_isWhole (wsV RX5 42 RX2 yX2_tonesOfLast wsX2_tonesOfLast) := goodIn_app (goodIn_of _ (by decide +kernel)) ggX5_isWhole_X2_tonesOfLast
theorem dX5_isWhole_0 : decode cX5_isWhole 0 = .ok (.aload_n 0, 1) := by decide +kernel
theorem dX5_isWhole_1 : decode cX5_isWhole 1 = .ok (.getfield 25, 3) := by decide +kernel
theorem dX5_isWhole_4 : decode cX5_isWhole 4 = .ok (.ifCond .ne 17, 3) := by decide +kernel
theorem dX5_isWhole_7 : decode cX5_isWhole 7 = .ok (.aload_n 0, 1) := by decide +kernel
theorem dX5_isWhole_8 : decode cX5_isWhole 8 = .ok (.getfield 12, 3) := by decide +kernel
theorem dX5_isWhole_11 : decode cX5_isWhole 11 = .ok (.invokevirtual 42, 3) := by decide +kernel
theorem dX5_isWhole_14 : decode cX5_isWhole 14 = .ok (.ifCond .eq 7, 3) := by decide +kernel
theorem dX5_isWhole_17 : decode cX5_isWhole 17 = .ok (.iconst 1, 1) := by decide +kernel
theorem dX5_isWhole_18 : decode cX5_isWhole 18 = .ok (.goto 4, 3) := by decide +kernel
theorem dX5_isWhole_21 : decode cX5_isWhole 21 = .ok (.iconst 0, 1) := by decide +kernel
theorem dX5_isWhole_22 : decode cX5_isWhole 22 = .ok (.ireturn, 1) := by decide +kernel
set_option maxRecDepth 20000 in
theorem ggX5_acceptPosition_X8_isPosition : GoodIn wsX5_acceptPosition wsX8_isPosition := goodIn_r _ [4] (by decide +kernel) (by decide +kernel)
set_option maxRecDepth 20000 in
theorem gX5_acceptPosition_X8_isPosition_n46 : GoodIn wsX5_acceptPosition (wsX8_isPosition) := ggX5_acceptPosition_X8_isPosition
theorem dX5_acceptPosition_0 : decode cX5_acceptPosition 0 = .ok (.iload_n 1, 1) := by decide +kernel
theorem dX5_acceptPosition_1 : decode cX5_acceptPosition 1 = .ok (.bipush 48, 2) := by decide +kernel
theorem dX5_acceptPosition_3 : decode cX5_acceptPosition 3 = .ok (.isub, 1) := by decide +kernel
theorem dX5_acceptPosition_4 : decode cX5_acceptPosition 4 = .ok (.istore_n 2, 1) := by decide +kernel
theorem dX5_acceptPosition_5 : decode cX5_acceptPosition 5 = .ok (.iload_n 2, 1) := by decide +kernel
theorem dX5_acceptPosition_6 : decode cX5_acceptPosition 6 = .ok (.invokestatic 46, 3) := by decide +kernel
theorem dX5_acceptPosition_9 : decode cX5_acceptPosition 9 = .ok (.ifCond .ne 5, 3) := by decide +kernel
theorem dX5_acceptPosition_12 : decode cX5_acceptPosition 12 = .ok (.iconst 0, 1) := by decide +kernel
theorem dX5_acceptPosition_13 : decode cX5_acceptPosition 13 = .ok (.ireturn, 1) := by decide +kernel
theorem dX5_acceptPosition_14 : decode cX5_acceptPosition 14 = .ok (.aload_n 0, 1) := by decide +kernel
theorem dX5_acceptPosition_15 : decode cX5_acceptPosition 15 = .ok (.getfield 12, 3) := by decide +kernel
theorem dX5_acceptPosition_18 : decode cX5_acceptPosition 18 = .ok (.aload_n 0, 1) := by decide +kernel
theorem dX5_acceptPosition_19 : decode cX5_acceptPosition 19 = .ok (.getfield 12, 3) := by decide +kernel
theorem dX5_acceptPosition_22 : decode cX5_acceptPosition 22 = .ok (.getfield 49, 3) := by decide +kernel
theorem dX5_acceptPosition_25 : decode cX5_acceptPosition 25 = .ok (.iconst 3, 1) := by decide +kernel
theorem dX5_acceptPosition_26 : decode cX5_acceptPosition 26 = .ok (.imul, 1) := by decide +kernel
theorem dX5_acceptPosition_27 : decode cX5_acceptPosition 27 = .ok (.iload_n 2, 1) := by decide +kernel
theorem dX5_acceptPosition_28 : decode cX5_acceptPosition 28 = .ok (.iadd, 1) := by decide +kernel
theorem dX5_acceptPosition_29 : decode cX5_acceptPosition 29 = .ok (.putfield 49, 3) := by decide +kernel
theorem dX5_acceptPosition_32 : decode cX5_acceptPosition 32 = .ok (.iconst 1, 1) := by decide +kernel
theorem dX5_acceptPosition_33 : decode cX5_acceptPosition 33 = .ok (.ireturn, 1) := by decide +kernel
set_option maxRecDepth 20000 in
theorem ggX5_acceptKind_X5_kindOf : GoodIn wsX5_acceptKind wsX5_kindOf := goodIn_r _ [6] (by decide +kernel) (by decide +kernel)
set_option maxRecDepth 20000 in
theorem gX5_acceptKind_X5_kindOf : GoodIn wsX5_acceptKind (va_wsS RX5 52 yX5_kindOf wsX5_kindOf) := goodIn_app (goodIn_of _ (by decide +kernel)) ggX5_acceptKind_X5_kindOf
set_option maxRecDepth 20000 in
theorem ggX5_acceptKind_X2_insert : GoodIn wsX5_acceptKind wsX2_insert := goodIn_r _ [11, 12, 13, 14, 18, 19, 20, 21] (by decide +kernel) (by decide +kernel)
set_option maxRecDepth 20000 in
theorem gX5_acceptKind_X2_insert : GoodIn wsX5_acceptKind (wsV RX5 59 RX2 yX2_insert wsX2_insert) := goodIn_app (goodIn_of _ (by decide +kernel)) ggX5_acceptKind_X2_insert
theorem dX5_acceptKind_0 : decode cX5_acceptKind 0 = .ok (.iload_n 1, 1) := by decide +kernel
theorem dX5_acceptKind_1 : decode cX5_acceptKind 1 = .ok (.invokestatic 52, 3) := by decide +kernel
theorem dX5_acceptKind_4 : decode cX5_acceptKind 4 = .ok (.istore_n 2, 1) := by decide +kernel
theorem dX5_acceptKind_5 : decode cX5_acceptKind 5 = .ok (.iload_n 2, 1) := by decide +kernel
theorem dX5_acceptKind_6 : decode cX5_acceptKind 6 = .ok (.iconst (-1), 1) := by decide +kernel
theorem dX5_acceptKind_7 : decode cX5_acceptKind 7 = .ok (.if_icmp .ne 5, 3) := by decide +kernel
theorem dX5_acceptKind_10 : decode cX5_acceptKind 10 = .ok (.iconst 0, 1) := by decide +kernel
theorem dX5_acceptKind_11 : decode cX5_acceptKind 11 = .ok (.ireturn, 1) := by decide +kernel
theorem dX5_acceptKind_12 : decode cX5_acceptKind 12 = .ok (.aload_n 0, 1) := by decide +kernel
theorem dX5_acceptKind_13 : decode cX5_acceptKind 13 = .ok (.iconst 0, 1) := by decide +kernel
theorem dX5_acceptKind_14 : decode cX5_acceptKind 14 = .ok (.putfield 25, 3) := by decide +kernel
theorem dX5_acceptKind_17 : decode cX5_acceptKind 17 = .ok (.aload_n 0, 1) := by decide +kernel
theorem dX5_acceptKind_18 : decode cX5_acceptKind 18 = .ok (.getfield 12, 3) := by decide +kernel
theorem dX5_acceptKind_21 : decode cX5_acceptKind 21 = .ok (.aload_n 0, 1) := by decide +kernel
theorem dX5_acceptKind_22 : decode cX5_acceptKind 22 = .ok (.getfield 12, 3) := by decide +kernel
theorem dX5_acceptKind_25 : decode cX5_acceptKind 25 = .ok (.getfield 56, 3) := by decide +kernel
theorem dX5_acceptKind_28 : decode cX5_acceptKind 28 = .ok (.iload_n 2, 1) := by decide +kernel
theorem dX5_acceptKind_29 : decode cX5_acceptKind 29 = .ok (.iconst 0, 1) := by decide +kernel
theorem dX5_acceptKind_30 : decode cX5_acceptKind 30 = .ok (.invokevirtual 59, 3) := by decide +kernel
theorem dX5_acceptKind_33 : decode cX5_acceptKind 33 = .ok (.ireturn, 1) := by decide +kernel
set_option maxRecDepth 20000 in
theorem ggX5_acceptTone_X2_tonesOfLast : GoodIn wsX5_acceptTone wsX2_tonesOfLast := goodIn_r _ [6, 7, 8, 23, 24, 25, 26] (by decide +kernel) (by decide +kernel)
set_option maxRecDepth 20000 in
theorem gX5_acceptTone_X2_tonesOfLast : GoodIn wsX5_acceptTone (wsV RX5 42 RX2 yX2_tonesOfLast wsX2_tonesOfLast) := goodIn_app (goodIn_of _ (by decide +kernel)) ggX5_acceptTone_X2_tonesOfLast
set_option maxRecDepth 20000 in
theorem ggX5_acceptTone_J6_bitCount_0f7a4 : GoodIn wsX5_acceptTone wsJ6_bitCount_0f7a4 := goodIn_r _ [12, 13, 14, 15] (by decide +kernel) (by decide +kernel)
set_option maxRecDepth 20000 in
theorem gX5_acceptTone_J6_bitCount_0f7a4 : GoodIn wsX5_acceptTone (va_wsS RX5 63 yJ6_bitCount_0f7a4 wsJ6_bitCount_0f7a4) := goodIn_app (goodIn_of _ (by decide +kernel)) ggX5_acceptTone_J6_bitCount_0f7a4
set_option maxRecDepth 20000 in
theorem ggX5_acceptTone_X2_addToLast : GoodIn wsX5_acceptTone wsX2_addToLast := goodIn_r _ [19, 7, 8, 23, 24, 25, 26] (by decide +kernel) (by decide +kernel)
set_option maxRecDepth 20000 in
theorem gX5_acceptTone_X2_addToLast : GoodIn wsX5_acceptTone (wsV RX5 68 RX2 yX2_addToLast wsX2_addToLast) := goodIn_app (goodIn_of _ (by decide +kernel)) ggX5_acceptTone_X2_addToLast
theorem dX5_acceptTone_0 : decode cX5_acceptTone 0 = .ok (.iload_n 1, 1) := by decide +kernel
theorem dX5_acceptTone_1 : decode cX5_acceptTone 1 = .ok (.bipush 97, 2) := by decide +kernel
theorem dX5_acceptTone_3 : decode cX5_acceptTone 3 = .ok (.isub, 1) := by decide +kernel
theorem dX5_acceptTone_4 : decode cX5_acceptTone 4 = .ok (.istore_n 2, 1) := by decide +kernel
theorem dX5_acceptTone_5 : decode cX5_acceptTone 5 = .ok (.aload_n 0, 1) := by decide +kernel
theorem dX5_acceptTone_6 : decode cX5_acceptTone 6 = .ok (.getfield 12, 3) := by decide +kernel
theorem dX5_acceptTone_9 : decode cX5_acceptTone 9 = .ok (.invokevirtual 42, 3) := by decide +kernel
theorem dX5_acceptTone_12 : decode cX5_acceptTone 12 = .ok (.istore_n 3, 1) := by decide +kernel
theorem dX5_acceptTone_13 : decode cX5_acceptTone 13 = .ok (.iload_n 2, 1) := by decide +kernel
theorem dX5_acceptTone_14 : decode cX5_acceptTone 14 = .ok (.ifCond .lt 17, 3) := by decide +kernel
theorem dX5_acceptTone_17 : decode cX5_acceptTone 17 = .ok (.iload_n 2, 1) := by decide +kernel
theorem dX5_acceptTone_18 : decode cX5_acceptTone 18 = .ok (.bipush 12, 2) := by decide +kernel
theorem dX5_acceptTone_20 : decode cX5_acceptTone 20 = .ok (.if_icmp .ge 11, 3) := by decide +kernel
theorem dX5_acceptTone_23 : decode cX5_acceptTone 23 = .ok (.iload_n 3, 1) := by decide +kernel
theorem dX5_acceptTone_24 : decode cX5_acceptTone 24 = .ok (.invokestatic 63, 3) := by decide +kernel
theorem dX5_acceptTone_27 : decode cX5_acceptTone 27 = .ok (.iconst 4, 1) := by decide +kernel
theorem dX5_acceptTone_28 : decode cX5_acceptTone 28 = .ok (.if_icmp .lt 5, 3) := by decide +kernel
theorem dX5_acceptTone_31 : decode cX5_acceptTone 31 = .ok (.iconst 0, 1) := by decide +kernel
theorem dX5_acceptTone_32 : decode cX5_acceptTone 32 = .ok (.ireturn, 1) := by decide +kernel
theorem dX5_acceptTone_33 : decode cX5_acceptTone 33 = .ok (.iload_n 3, 1) := by decide +kernel
theorem dX5_acceptTone_34 : decode cX5_acceptTone 34 = .ok (.iload_n 2, 1) := by decide +kernel
theorem dX5_acceptTone_35 : decode cX5_acceptTone 35 = .ok (.ishr, 1) := by decide +kernel
theorem dX5_acceptTone_36 : decode cX5_acceptTone 36 = .ok (.ifCond .eq 5, 3) := by decide +kernel
theorem dX5_acceptTone_39 : decode cX5_acceptTone 39 = .ok (.iconst 0, 1) := by decide +kernel
theorem dX5_acceptTone_40 : decode cX5_acceptTone 40 = .ok (.ireturn, 1) := by decide +kernel
theorem dX5_acceptTone_41 : decode cX5_acceptTone 41 = .ok (.aload_n 0, 1) := by decide +kernel
theorem dX5_acceptTone_42 : decode cX5_acceptTone 42 = .ok (.getfield 12, 3) := by decide +kernel
theorem dX5_acceptTone_45 : decode cX5_acceptTone 45 = .ok (.iconst 1, 1) := by decide +kernel
theorem dX5_acceptTone_46 : decode cX5_acceptTone 46 = .ok (.iload_n 2, 1) := by decide +kernel
theorem dX5_acceptTone_47 : decode cX5_acceptTone 47 = .ok (.ishl, 1) := by decide +kernel
theorem dX5_acceptTone_48 : decode cX5_acceptTone 48 = .ok (.invokevirtual 68, 3) := by decide +kernel
theorem dX5_acceptTone_51 : decode cX5_acceptTone 51 = .ok (.iconst 1, 1) := by decide +kernel
theorem dX5_acceptTone_52 : decode cX5_acceptTone 52 = .ok (.ireturn, 1) := by decide +kernel
set_option maxRecDepth 20000 in
theorem ggX5_acceptComma_X2_tonesOfLast : GoodIn wsX5_acceptComma wsX2_tonesOfLast := goodIn_r _ [7, 8, 9, 13, 14, 15, 16] (by decide +kernel) (by decide +kernel)
set_option maxRecDepth 20000 in
theorem gX5_acceptComma_X2_tonesOfLast : GoodIn wsX5_acceptComma (wsV RX5 42 RX2 yX2_tonesOfLast wsX2_tonesOfLast) := goodIn_app (goodIn_of _ (by decide +kernel)) ggX5_acceptComma_X2_tonesOfLast
theorem dX5_acceptComma_0 : decode cX5_acceptComma 0 = .ok (.iload_n 1, 1) := by decide +kernel
theorem dX5_acceptComma_1 : decode cX5_acceptComma 1 = .ok (.bipush 44, 2) := by decide +kernel
theorem dX5_acceptComma_3 : decode cX5_acceptComma 3 = .ok (.if_icmp .ne 25, 3) := by decide +kernel
theorem dX5_acceptComma_6 : decode cX5_acceptComma 6 = .ok (.aload_n 0, 1) := by decide +kernel
theorem dX5_acceptComma_7 : decode cX5_acceptComma 7 = .ok (.getfield 12, 3) := by decide +kernel
theorem dX5_acceptComma_10 : decode cX5_acceptComma 10 = .ok (.invokevirtual 42, 3) := by decide +kernel
theorem dX5_acceptComma_13 : decode cX5_acceptComma 13 = .ok (.ifCond .eq 15, 3) := by decide +kernel
theorem dX5_acceptComma_16 : decode cX5_acceptComma 16 = .ok (.aload_n 0, 1) := by decide +kernel
theorem dX5_acceptComma_17 : decode cX5_acceptComma 17 = .ok (.getfield 12, 3) := by decide +kernel
theorem dX5_acceptComma_20 : decode cX5_acceptComma 20 = .ok (.getfield 56, 3) := by decide +kernel
theorem dX5_acceptComma_23 : decode cX5_acceptComma 23 = .ok (.bipush 8, 2) := by decide +kernel
theorem dX5_acceptComma_25 : decode cX5_acceptComma 25 = .ok (.if_icmp .lt 5, 3) := by decide +kernel
theorem dX5_acceptComma_28 : decode cX5_acceptComma 28 = .ok (.iconst 0, 1) := by decide +kernel
theorem dX5_acceptComma_29 : decode cX5_acceptComma 29 = .ok (.ireturn, 1) := by decide +kernel
theorem dX5_acceptComma_30 : decode cX5_acceptComma 30 = .ok (.aload_n 0, 1) := by decide +kernel
theorem dX5_acceptComma_31 : decode cX5_acceptComma 31 = .ok (.iconst 1, 1) := by decide +kernel
theorem dX5_acceptComma_32 : decode cX5_acceptComma 32 = .ok (.putfield 25, 3) := by decide +kernel
theorem dX5_acceptComma_35 : decode cX5_acceptComma 35 = .ok (.iconst 1, 1) := by decide +kernel
theorem dX5_acceptComma_36 : decode cX5_acceptComma 36 = .ok (.ireturn, 1) := by decide +kernel
theorem dX5_kindOf_0 : decode cX5_kindOf 0 = .ok (.iload_n 0, 1) := by decide +kernel
theorem dX5_kindOf_1 : decode cX5_kindOf 1 = .ok (.lookupswitch 61 #[(98, 59), (99, 51), (103, 53), (104, 55), (113, 57)], 51) := by decide +kernel
theorem dX5_kindOf_52 : decode cX5_kindOf 52 = .ok (.iconst 0, 1) := by decide +kernel
theorem dX5_kindOf_53 : decode cX5_kindOf 53 = .ok (.ireturn, 1) := by decide +kernel
theorem dX5_kindOf_54 : decode cX5_kindOf 54 = .ok (.iconst 1, 1) := by decide +kernel
theorem dX5_kindOf_55 : decode cX5_kindOf 55 = .ok (.ireturn, 1) := by decide +kernel
theorem dX5_kindOf_56 : decode cX5_kindOf 56 = .ok (.iconst 2, 1) := by decide +kernel
theorem dX5_kindOf_57 : decode cX5_kindOf 57 = .ok (.ireturn, 1) := by decide +kernel
theorem dX5_kindOf_58 : decode cX5_kindOf 58 = .ok (.iconst 3, 1) := by decide +kernel
theorem dX5_kindOf_59 : decode cX5_kindOf 59 = .ok (.ireturn, 1) := by decide +kernel
theorem dX5_kindOf_60 : decode cX5_kindOf 60 = .ok (.iconst 4, 1) := by decide +kernel
theorem dX5_kindOf_61 : decode cX5_kindOf 61 = .ok (.ireturn, 1) := by decide +kernel
theorem dX5_kindOf_62 : decode cX5_kindOf 62 = .ok (.iconst (-1), 1) := by decide +kernel
theorem dX5_kindOf_63 : decode cX5_kindOf 63 = .ok (.ireturn, 1) := by decide +kernel
theorem dX6_init_0 : decode cX6_init 0 = .ok (.aload_n 0, 1) := by decide +kernel
theorem dX6_init_1 : decode cX6_init 1 = .ok (.invokespecial 3, 3) := by decide +kernel
theorem dX6_init_4 : decode cX6_init 4 = .ok (.aload_n 0, 1) := by decide +kernel
theorem dX6_init_5 : decode cX6_init 5 = .ok (.bipush 6, 2) := by decide +kernel
theorem dX6_init_7 : decode cX6_init 7 = .ok (.newarray .int, 2) := by decide +kernel
theorem dX6_init_9 : decode cX6_init 9 = .ok (.putfield 9, 3) := by decide +kernel
theorem dX6_init_12 : decode cX6_init 12 = .ok (.aload_n 0, 1) := by decide +kernel
theorem dX6_init_13 : decode cX6_init 13 = .ok (.bipush 6, 2) := by decide +kernel
theorem dX6_init_15 : decode cX6_init 15 = .ok (.newarray .int, 2) := by decide +kernel
theorem dX6_init_17 : decode cX6_init 17 = .ok (.putfield 15, 3) := by decide +kernel
theorem dX6_init_20 : decode cX6_init 20 = .ok (.return_, 1) := by decide +kernel
theorem dX6_add_0 : decode cX6_add 0 = .ok (.aload_n 0, 1) := by decide +kernel
theorem dX6_add_1 : decode cX6_add 1 = .ok (.getfield 18, 3) := by decide +kernel
theorem dX6_add_4 : decode cX6_add 4 = .ok (.bipush 6, 2) := by decide +kernel
theorem dX6_add_6 : decode cX6_add 6 = .ok (.if_icmp .ge 12, 3) := by decide +kernel
theorem dX6_add_9 : decode cX6_add 9 = .ok (.iload_n 2, 1) := by decide +kernel
theorem dX6_add_10 : decode cX6_add 10 = .ok (.ifCond .lt 8, 3) := by decide +kernel
theorem dX6_add_13 : decode cX6_add 13 = .ok (.iload_n 2, 1) := by decide +kernel
theorem dX6_add_14 : decode cX6_add 14 = .ok (.iconst 4, 1) := by decide +kernel
theorem dX6_add_15 : decode cX6_add 15 = .ok (.if_icmp .lt 5, 3) := by decide +kernel
theorem dX6_add_18 : decode cX6_add 18 = .ok (.iconst 0, 1) := by decide +kernel
theorem dX6_add_19 : decode cX6_add 19 = .ok (.ireturn, 1) := by decide +kernel
theorem dX6_add_20 : decode cX6_add 20 = .ok (.getstatic 22, 3) := by decide +kernel
theorem dX6_add_23 : decode cX6_add 23 = .ok (.iload_n 2, 1) := by decide +kernel
theorem dX6_add_24 : decode cX6_add 24 = .ok (.iaload, 1) := by decide +kernel
theorem dX6_add_25 : decode cX6_add 25 = .ok (.istore 4, 2) := by decide +kernel
theorem dX6_add_27 : decode cX6_add 27 = .ok (.aload_n 0, 1) := by decide +kernel
theorem dX6_add_28 : decode cX6_add 28 = .ok (.getfield 9, 3) := by decide +kernel
theorem dX6_add_31 : decode cX6_add 31 = .ok (.aload_n 0, 1) := by decide +kernel
theorem dX6_add_32 : decode cX6_add 32 = .ok (.getfield 18, 3) := by decide +kernel
theorem dX6_add_35 : decode cX6_add 35 = .ok (.iload_n 1, 1) := by decide +kernel
theorem dX6_add_36 : decode cX6_add 36 = .ok (.iastore, 1) := by decide +kernel
theorem dX6_add_37 : decode cX6_add 37 = .ok (.aload_n 0, 1) := by decide +kernel
theorem dX6_add_38 : decode cX6_add 38 = .ok (.getfield 15, 3) := by decide +kernel
theorem dX6_add_41 : decode cX6_add 41 = .ok (.aload_n 0, 1) := by decide +kernel
theorem dX6_add_42 : decode cX6_add 42 = .ok (.getfield 18, 3) := by decide +kernel
theorem dX6_add_45 : decode cX6_add 45 = .ok (.iload_n 3, 1) := by decide +kernel
theorem dX6_add_46 : decode cX6_add 46 = .ok (.ifCond .eq 8, 3) := by decide +kernel
theorem dX6_add_49 : decode cX6_add 49 = .ok (.iload 4, 2) := by decide +kernel
theorem dX6_add_51 : decode cX6_add 51 = .ok (.goto 10, 3) := by decide +kernel
theorem dX6_add_54 : decode cX6_add 54 = .ok (.bipush 31, 2) := by decide +kernel
theorem dX6_add_56 : decode cX6_add 56 = .ok (.iload 4, 2) := by decide +kernel
theorem dX6_add_58 : decode cX6_add 58 = .ok (.iconst (-1), 1) := by decide +kernel
theorem dX6_add_59 : decode cX6_add 59 = .ok (.ixor, 1) := by decide +kernel
theorem dX6_add_60 : decode cX6_add 60 = .ok (.iand, 1) := by decide +kernel
theorem dX6_add_61 : decode cX6_add 61 = .ok (.iastore, 1) := by decide +kernel
theorem dX6_add_62 : decode cX6_add 62 = .ok (.aload_n 0, 1) := by decide +kernel
theorem dX6_add_63 : decode cX6_add 63 = .ok (.dup, 1) := by decide +kernel
theorem dX6_add_64 : decode cX6_add 64 = .ok (.getfield 18, 3) := by decide +kernel
theorem dX6_add_67 : decode cX6_add 67 = .ok (.iconst 1, 1) := by decide +kernel
theorem dX6_add_68 : decode cX6_add 68 = .ok (.iadd, 1) := by decide +kernel
theorem dX6_add_69 : decode cX6_add 69 = .ok (.putfield 18, 3) := by decide +kernel
theorem dX6_add_72 : decode cX6_add 72 = .ok (.iconst 1, 1) := by decide +kernel
theorem dX6_add_73 : decode cX6_add 73 = .ok (.ireturn, 1) := by decide +kernel
theorem dX6_clear_0 : decode cX6_clear 0 = .ok (.aload_n 0, 1) := by decide +kernel
theorem dX6_clear_1 : decode cX6_clear 1 = .ok (.getfield 18, 3) := by decide +kernel
theorem dX6_clear_4 : decode cX6_clear 4 = .ok (.istore_n 1, 1) := by decide +kernel
theorem dX6_clear_5 : decode cX6_clear 5 = .ok (.aload_n 0, 1) := by decide +kernel
theorem dX6_clear_6 : decode cX6_clear 6 = .ok (.iconst 0, 1) := by decide +kernel
theorem dX6_clear_7 : decode cX6_clear 7 = .ok (.putfield 18, 3) := by decide +kernel
theorem dX6_clear_10 : decode cX6_clear 10 = .ok (.iload_n 1, 1) := by decide +kernel
theorem dX6_clear_11 : decode cX6_clear 11 = .ok (.ireturn, 1) := by decide +kernel
theorem dX6_become_0 : decode cX6_become 0 = .ok (.aload_n 0, 1) := by decide +kernel
theorem dX6_become_1 : decode cX6_become 1 = .ok (.aload_n 1, 1) := by decide +kernel
theorem dX6_become_2 : decode cX6_become 2 = .ok (.getfield 18, 3) := by decide +kernel
theorem dX6_become_5 : decode cX6_become 5 = .ok (.putfield 18, 3) := by decide +kernel
theorem dX6_become_8 : decode cX6_become 8 = .ok (.aload_n 1, 1) := by decide +kernel
theorem dX6_become_9 : decode cX6_become 9 = .ok (.getfield 9, 3) := by decide +kernel
theorem dX6_become_12 : decode cX6_become 12 = .ok (.iconst 0, 1) := by decide +kernel
theorem dX6_become_13 : decode cX6_become 13 = .ok (.aload_n 0, 1) := by decide +kernel
theorem dX6_become_14 : decode cX6_become 14 = .ok (.getfield 9, 3) := by decide +kernel
theorem dX6_become_17 : decode cX6_become 17 = .ok (.iconst 0, 1) := by decide +kernel
theorem dX6_become_18 : decode cX6_become 18 = .ok (.bipush 6, 2) := by decide +kernel
theorem dX6_become_20 : decode cX6_become 20 = .ok (.invokestatic 25, 3) := by decide +kernel
theorem dX6_become_23 : decode cX6_become 23 = .ok (.aload_n 1, 1) := by decide +kernel
theorem dX6_become_24 : decode cX6_become 24 = .ok (.getfield 15, 3) := by decide +kernel
theorem dX6_become_27 : decode cX6_become 27 = .ok (.iconst 0, 1) := by decide +kernel
theorem dX6_become_28 : decode cX6_become 28 = .ok (.aload_n 0, 1) := by decide +kernel
theorem dX6_become_29 : decode cX6_become 29 = .ok (.getfield 15, 3) := by decide +kernel
theorem dX6_become_32 : decode cX6_become 32 = .ok (.iconst 0, 1) := by decide +kernel
theorem dX6_become_33 : decode cX6_become 33 = .ok (.bipush 6, 2) := by decide +kernel
theorem dX6_become_35 : decode cX6_become 35 = .ok (.invokestatic 25, 3) := by decide +kernel
theorem dX6_become_38 : decode cX6_become 38 = .ok (.return_, 1) := by decide +kernel
theorem dX6_sortsOf_0 : decode cX6_sortsOf 0 = .ok (.bipush 31, 2) := by decide +kernel
theorem dX6_sortsOf_2 : decode cX6_sortsOf 2 = .ok (.istore_n 2, 1) := by decide +kernel
theorem dX6_sortsOf_3 : decode cX6_sortsOf 3 = .ok (.iconst 0, 1) := by decide +kernel
theorem dX6_sortsOf_4 : decode cX6_sortsOf 4 = .ok (.istore_n 3, 1) := by decide +kernel
theorem dX6_sortsOf_5 : decode cX6_sortsOf 5 = .ok (.iload_n 3, 1) := by decide +kernel
theorem dX6_sortsOf_6 : decode cX6_sortsOf 6 = .ok (.aload_n 0, 1) := by decide +kernel
theorem dX6_sortsOf_7 : decode cX6_sortsOf 7 = .ok (.getfield 18, 3) := by decide +kernel
theorem dX6_sortsOf_10 : decode cX6_sortsOf 10 = .ok (.if_icmp .ge 28, 3) := by decide +kernel
theorem dX6_sortsOf_13 : decode cX6_sortsOf 13 = .ok (.aload_n 0, 1) := by decide +kernel
theorem dX6_sortsOf_14 : decode cX6_sortsOf 14 = .ok (.getfield 9, 3) := by decide +kernel
theorem dX6_sortsOf_17 : decode cX6_sortsOf 17 = .ok (.iload_n 3, 1) := by decide +kernel
theorem dX6_sortsOf_18 : decode cX6_sortsOf 18 = .ok (.iaload, 1) := by decide +kernel
theorem dX6_sortsOf_19 : decode cX6_sortsOf 19 = .ok (.iload_n 1, 1) := by decide +kernel
theorem dX6_sortsOf_20 : decode cX6_sortsOf 20 = .ok (.if_icmp .ne 12, 3) := by decide +kernel
theorem dX6_sortsOf_23 : decode cX6_sortsOf 23 = .ok (.iload_n 2, 1) := by decide +kernel
theorem dX6_sortsOf_24 : decode cX6_sortsOf 24 = .ok (.aload_n 0, 1) := by decide +kernel
theorem dX6_sortsOf_25 : decode cX6_sortsOf 25 = .ok (.getfield 15, 3) := by decide +kernel
theorem dX6_sortsOf_28 : decode cX6_sortsOf 28 = .ok (.iload_n 3, 1) := by decide +kernel
theorem dX6_sortsOf_29 : decode cX6_sortsOf 29 = .ok (.iaload, 1) := by decide +kernel
theorem dX6_sortsOf_30 : decode cX6_sortsOf 30 = .ok (.iand, 1) := by decide +kernel
theorem dX6_sortsOf_31 : decode cX6_sortsOf 31 = .ok (.istore_n 2, 1) := by decide +kernel
theorem dX6_sortsOf_32 : decode cX6_sortsOf 32 = .ok (.iinc 3 1, 3) := by decide +kernel
theorem dX6_sortsOf_35 : decode cX6_sortsOf 35 = .ok (.goto (-30), 3) := by decide +kernel
theorem dX6_sortsOf_38 : decode cX6_sortsOf 38 = .ok (.iload_n 2, 1) := by decide +kernel
theorem dX6_sortsOf_39 : decode cX6_sortsOf 39 = .ok (.ireturn, 1) := by decide +kernel
set_option maxRecDepth 20000 in
theorem ggX6_nextQuestion_X6_sortsOf : GoodIn wsX6_nextQuestion wsX6_sortsOf := goodIn_r _ [6, 7, 8, 9, 24, 25, 26] (by decide +kernel) (by decide +kernel)
set_option maxRecDepth 20000 in
theorem gX6_nextQuestion_X6_sortsOf : GoodIn wsX6_nextQuestion (wsV RX6 31 RX6 yX6_sortsOf wsX6_sortsOf) := goodIn_app (goodIn_of _ (by decide +kernel)) ggX6_nextQuestion_X6_sortsOf
set_option maxRecDepth 20000 in
theorem ggX6_nextQuestion_X6_leftAtWorst : GoodIn wsX6_nextQuestion wsX6_leftAtWorst := goodIn_r _ [12, 13, 14, 15, 16, 17, 18, 19, 20, 21, 22, 23] (by decide +kernel) (by decide +kernel)
set_option maxRecDepth 20000 in
theorem gX6_nextQuestion_X6_leftAtWorst : GoodIn wsX6_nextQuestion (va_wsS RX6 35 yX6_leftAtWorst wsX6_leftAtWorst) := goodIn_app (goodIn_of _ (by decide +kernel)) ggX6_nextQuestion_X6_leftAtWorst
theorem dX6_nextQuestion_0 : decode cX6_nextQuestion 0 = .ok (.aload_n 0, 1) := by decide +kernel
theorem dX6_nextQuestion_1 : decode cX6_nextQuestion 1 = .ok (.iload_n 1, 1) := by decide +kernel
theorem dX6_nextQuestion_2 : decode cX6_nextQuestion 2 = .ok (.invokevirtual 31, 3) := by decide +kernel
theorem dX6_nextQuestion_5 : decode cX6_nextQuestion 5 = .ok (.istore_n 2, 1) := by decide +kernel
theorem dX6_nextQuestion_6 : decode cX6_nextQuestion 6 = .ok (.iload_n 2, 1) := by decide +kernel
theorem dX6_nextQuestion_7 : decode cX6_nextQuestion 7 = .ok (.ifCond .ne 5, 3) := by decide +kernel
theorem dX6_nextQuestion_10 : decode cX6_nextQuestion 10 = .ok (.iconst (-1), 1) := by decide +kernel
theorem dX6_nextQuestion_11 : decode cX6_nextQuestion 11 = .ok (.ireturn, 1) := by decide +kernel
theorem dX6_nextQuestion_12 : decode cX6_nextQuestion 12 = .ok (.iconst (-1), 1) := by decide +kernel
theorem dX6_nextQuestion_13 : decode cX6_nextQuestion 13 = .ok (.istore_n 3, 1) := by decide +kernel
theorem dX6_nextQuestion_14 : decode cX6_nextQuestion 14 = .ok (.bipush 6, 2) := by decide +kernel
theorem dX6_nextQuestion_16 : decode cX6_nextQuestion 16 = .ok (.istore 4, 2) := by decide +kernel
theorem dX6_nextQuestion_18 : decode cX6_nextQuestion 18 = .ok (.iconst 0, 1) := by decide +kernel
theorem dX6_nextQuestion_19 : decode cX6_nextQuestion 19 = .ok (.istore 5, 2) := by decide +kernel
theorem dX6_nextQuestion_21 : decode cX6_nextQuestion 21 = .ok (.iload 5, 2) := by decide +kernel
theorem dX6_nextQuestion_23 : decode cX6_nextQuestion 23 = .ok (.iconst 4, 1) := by decide +kernel
theorem dX6_nextQuestion_24 : decode cX6_nextQuestion 24 = .ok (.if_icmp .ge 35, 3) := by decide +kernel
theorem dX6_nextQuestion_27 : decode cX6_nextQuestion 27 = .ok (.iload_n 2, 1) := by decide +kernel
theorem dX6_nextQuestion_28 : decode cX6_nextQuestion 28 = .ok (.getstatic 22, 3) := by decide +kernel
theorem dX6_nextQuestion_31 : decode cX6_nextQuestion 31 = .ok (.iload 5, 2) := by decide +kernel
theorem dX6_nextQuestion_33 : decode cX6_nextQuestion 33 = .ok (.iaload, 1) := by decide +kernel
theorem dX6_nextQuestion_34 : decode cX6_nextQuestion 34 = .ok (.invokestatic 35, 3) := by decide +kernel
theorem dX6_nextQuestion_37 : decode cX6_nextQuestion 37 = .ok (.istore 6, 2) := by decide +kernel
theorem dX6_nextQuestion_39 : decode cX6_nextQuestion 39 = .ok (.iload 6, 2) := by decide +kernel
theorem dX6_nextQuestion_41 : decode cX6_nextQuestion 41 = .ok (.iload 4, 2) := by decide +kernel
theorem dX6_nextQuestion_43 : decode cX6_nextQuestion 43 = .ok (.if_icmp .ge 10, 3) := by decide +kernel
theorem dX6_nextQuestion_46 : decode cX6_nextQuestion 46 = .ok (.iload 5, 2) := by decide +kernel
theorem dX6_nextQuestion_48 : decode cX6_nextQuestion 48 = .ok (.istore_n 3, 1) := by decide +kernel
theorem dX6_nextQuestion_49 : decode cX6_nextQuestion 49 = .ok (.iload 6, 2) := by decide +kernel
theorem dX6_nextQuestion_51 : decode cX6_nextQuestion 51 = .ok (.istore 4, 2) := by decide +kernel
theorem dX6_nextQuestion_53 : decode cX6_nextQuestion 53 = .ok (.iinc 5 1, 3) := by decide +kernel
theorem dX6_nextQuestion_56 : decode cX6_nextQuestion 56 = .ok (.goto (-35), 3) := by decide +kernel
theorem dX6_nextQuestion_59 : decode cX6_nextQuestion 59 = .ok (.iload_n 3, 1) := by decide +kernel
theorem dX6_nextQuestion_60 : decode cX6_nextQuestion 60 = .ok (.ireturn, 1) := by decide +kernel
set_option maxRecDepth 20000 in
theorem ggX6_leftAtWorst_J6_bitCount_0f7a4 : GoodIn wsX6_leftAtWorst wsJ6_bitCount_0f7a4 := goodIn_r _ [8, 9, 10, 11] (by decide +kernel) (by decide +kernel)
set_option maxRecDepth 20000 in
theorem gX6_leftAtWorst_J6_bitCount_0f7a4 : GoodIn wsX6_leftAtWorst (va_wsS RX6 39 yJ6_bitCount_0f7a4 wsJ6_bitCount_0f7a4) := goodIn_app (goodIn_of _ (by decide +kernel)) ggX6_leftAtWorst_J6_bitCount_0f7a4
theorem dX6_leftAtWorst_0 : decode cX6_leftAtWorst 0 = .ok (.iload_n 0, 1) := by decide +kernel
theorem dX6_leftAtWorst_1 : decode cX6_leftAtWorst 1 = .ok (.iload_n 1, 1) := by decide +kernel
theorem dX6_leftAtWorst_2 : decode cX6_leftAtWorst 2 = .ok (.iand, 1) := by decide +kernel
theorem dX6_leftAtWorst_3 : decode cX6_leftAtWorst 3 = .ok (.invokestatic 39, 3) := by decide +kernel
theorem dX6_leftAtWorst_6 : decode cX6_leftAtWorst 6 = .ok (.iload_n 0, 1) := by decide +kernel
theorem dX6_leftAtWorst_7 : decode cX6_leftAtWorst 7 = .ok (.iload_n 1, 1) := by decide +kernel
theorem dX6_leftAtWorst_8 : decode cX6_leftAtWorst 8 = .ok (.iconst (-1), 1) := by decide +kernel
theorem dX6_leftAtWorst_9 : decode cX6_leftAtWorst 9 = .ok (.ixor, 1) := by decide +kernel
theorem dX6_leftAtWorst_10 : decode cX6_leftAtWorst 10 = .ok (.iand, 1) := by decide +kernel
theorem dX6_leftAtWorst_11 : decode cX6_leftAtWorst 11 = .ok (.invokestatic 39, 3) := by decide +kernel
theorem dX6_leftAtWorst_14 : decode cX6_leftAtWorst 14 = .ok (.invokestatic 44, 3) := by decide +kernel
theorem dX6_leftAtWorst_17 : decode cX6_leftAtWorst 17 = .ok (.ireturn, 1) := by decide +kernel
set_option maxRecDepth 20000 in
theorem ggX7_init_X7_tonesOfPedals : GoodIn wsX7_init wsX7_tonesOfPedals := goodIn_r _ [9, 10, 11, 8, 12, 13, 14, 15, 16] (by decide +kernel) (by decide +kernel)
set_option maxRecDepth 20000 in
theorem gX7_init_X7_tonesOfPedals : GoodIn wsX7_init (va_wsS RX7 15 yX7_tonesOfPedals wsX7_tonesOfPedals) := goodIn_app (goodIn_of _ (by decide +kernel)) ggX7_init_X7_tonesOfPedals
theorem dX7_init_0 : decode cX7_init 0 = .ok (.aload_n 0, 1) := by decide +kernel
theorem dX7_init_1 : decode cX7_init 1 = .ok (.invokespecial 3, 3) := by decide +kernel
theorem dX7_init_4 : decode cX7_init 4 = .ok (.aload_n 0, 1) := by decide +kernel
theorem dX7_init_5 : decode cX7_init 5 = .ok (.sipush 2187, 3) := by decide +kernel
theorem dX7_init_8 : decode cX7_init 8 = .ok (.newarray .int, 2) := by decide +kernel
theorem dX7_init_10 : decode cX7_init 10 = .ok (.putfield 9, 3) := by decide +kernel
theorem dX7_init_13 : decode cX7_init 13 = .ok (.iconst 0, 1) := by decide +kernel
theorem dX7_init_14 : decode cX7_init 14 = .ok (.istore_n 1, 1) := by decide +kernel
theorem dX7_init_15 : decode cX7_init 15 = .ok (.iload_n 1, 1) := by decide +kernel
theorem dX7_init_16 : decode cX7_init 16 = .ok (.sipush 2187, 3) := by decide +kernel
theorem dX7_init_19 : decode cX7_init 19 = .ok (.if_icmp .ge 19, 3) := by decide +kernel
theorem dX7_init_22 : decode cX7_init 22 = .ok (.aload_n 0, 1) := by decide +kernel
theorem dX7_init_23 : decode cX7_init 23 = .ok (.getfield 9, 3) := by decide +kernel
theorem dX7_init_26 : decode cX7_init 26 = .ok (.iload_n 1, 1) := by decide +kernel
theorem dX7_init_27 : decode cX7_init 27 = .ok (.iload_n 1, 1) := by decide +kernel
theorem dX7_init_28 : decode cX7_init 28 = .ok (.invokestatic 15, 3) := by decide +kernel
theorem dX7_init_31 : decode cX7_init 31 = .ok (.iastore, 1) := by decide +kernel
theorem dX7_init_32 : decode cX7_init 32 = .ok (.iinc 1 1, 3) := by decide +kernel
theorem dX7_init_35 : decode cX7_init 35 = .ok (.goto (-20), 3) := by decide +kernel
theorem dX7_init_38 : decode cX7_init 38 = .ok (.return_, 1) := by decide +kernel
theorem dX7_fits_0 : decode cX7_fits 0 = .ok (.aload_n 0, 1) := by decide +kernel
theorem dX7_fits_1 : decode cX7_fits 1 = .ok (.getfield 9, 3) := by decide +kernel
theorem dX7_fits_4 : decode cX7_fits 4 = .ok (.iload_n 1, 1) := by decide +kernel
theorem dX7_fits_5 : decode cX7_fits 5 = .ok (.iaload, 1) := by decide +kernel
theorem dX7_fits_6 : decode cX7_fits 6 = .ok (.istore 4, 2) := by decide +kernel
theorem dX7_fits_8 : decode cX7_fits 8 = .ok (.iload_n 2, 1) := by decide +kernel
theorem dX7_fits_9 : decode cX7_fits 9 = .ok (.iconst 1, 1) := by decide +kernel
theorem dX7_fits_10 : decode cX7_fits 10 = .ok (.if_icmp .ne 17, 3) := by decide +kernel
theorem dX7_fits_13 : decode cX7_fits 13 = .ok (.iload 4, 2) := by decide +kernel
theorem dX7_fits_15 : decode cX7_fits 15 = .ok (.iload_n 3, 1) := by decide +kernel
theorem dX7_fits_16 : decode cX7_fits 16 = .ok (.if_icmp .ne 7, 3) := by decide +kernel
theorem dX7_fits_19 : decode cX7_fits 19 = .ok (.iconst 1, 1) := by decide +kernel
theorem dX7_fits_20 : decode cX7_fits 20 = .ok (.goto 20, 3) := by decide +kernel
theorem dX7_fits_23 : decode cX7_fits 23 = .ok (.iconst 0, 1) := by decide +kernel
theorem dX7_fits_24 : decode cX7_fits 24 = .ok (.goto 16, 3) := by decide +kernel
theorem dX7_fits_27 : decode cX7_fits 27 = .ok (.iload 4, 2) := by decide +kernel
theorem dX7_fits_29 : decode cX7_fits 29 = .ok (.iload_n 3, 1) := by decide +kernel
theorem dX7_fits_30 : decode cX7_fits 30 = .ok (.iand, 1) := by decide +kernel
theorem dX7_fits_31 : decode cX7_fits 31 = .ok (.iload_n 3, 1) := by decide +kernel
theorem dX7_fits_32 : decode cX7_fits 32 = .ok (.if_icmp .ne 7, 3) := by decide +kernel
theorem dX7_fits_35 : decode cX7_fits 35 = .ok (.iconst 1, 1) := by decide +kernel
theorem dX7_fits_36 : decode cX7_fits 36 = .ok (.goto 4, 3) := by decide +kernel
theorem dX7_fits_39 : decode cX7_fits 39 = .ok (.iconst 0, 1) := by decide +kernel
theorem dX7_fits_40 : decode cX7_fits 40 = .ok (.ireturn, 1) := by decide +kernel
set_option maxRecDepth 20000 in
theorem ggX7_howManyFit_X7_fits : GoodIn wsX7_howManyFit wsX7_fits := goodIn_r _ [5, 6, 7] (by decide +kernel) (by decide +kernel)
set_option maxRecDepth 20000 in
theorem gX7_howManyFit_X7_fits : GoodIn wsX7_howManyFit (wsV RX7 19 RX7 yX7_fits wsX7_fits) := goodIn_app (goodIn_of _ (by decide +kernel)) ggX7_howManyFit_X7_fits
theorem dX7_howManyFit_0 : decode cX7_howManyFit 0 = .ok (.iconst 0, 1) := by decide +kernel
theorem dX7_howManyFit_1 : decode cX7_howManyFit 1 = .ok (.istore_n 3, 1) := by decide +kernel
theorem dX7_howManyFit_2 : decode cX7_howManyFit 2 = .ok (.iconst 0, 1) := by decide +kernel
theorem dX7_howManyFit_3 : decode cX7_howManyFit 3 = .ok (.istore 4, 2) := by decide +kernel
theorem dX7_howManyFit_5 : decode cX7_howManyFit 5 = .ok (.iload 4, 2) := by decide +kernel
theorem dX7_howManyFit_7 : decode cX7_howManyFit 7 = .ok (.sipush 2187, 3) := by decide +kernel
theorem dX7_howManyFit_10 : decode cX7_howManyFit 10 = .ok (.if_icmp .ge 23, 3) := by decide +kernel
theorem dX7_howManyFit_13 : decode cX7_howManyFit 13 = .ok (.aload_n 0, 1) := by decide +kernel
theorem dX7_howManyFit_14 : decode cX7_howManyFit 14 = .ok (.iload 4, 2) := by decide +kernel
theorem dX7_howManyFit_16 : decode cX7_howManyFit 16 = .ok (.iload_n 1, 1) := by decide +kernel
theorem dX7_howManyFit_17 : decode cX7_howManyFit 17 = .ok (.iload_n 2, 1) := by decide +kernel
theorem dX7_howManyFit_18 : decode cX7_howManyFit 18 = .ok (.invokevirtual 19, 3) := by decide +kernel
theorem dX7_howManyFit_21 : decode cX7_howManyFit 21 = .ok (.ifCond .eq 6, 3) := by decide +kernel
theorem dX7_howManyFit_24 : decode cX7_howManyFit 24 = .ok (.iinc 3 1, 3) := by decide +kernel
theorem dX7_howManyFit_27 : decode cX7_howManyFit 27 = .ok (.iinc 4 1, 3) := by decide +kernel
theorem dX7_howManyFit_30 : decode cX7_howManyFit 30 = .ok (.goto (-25), 3) := by decide +kernel
theorem dX7_howManyFit_33 : decode cX7_howManyFit 33 = .ok (.iload_n 3, 1) := by decide +kernel
theorem dX7_howManyFit_34 : decode cX7_howManyFit 34 = .ok (.ireturn, 1) := by decide +kernel
set_option maxRecDepth 20000 in
theorem ggX7_leastThatFits_X7_fits : GoodIn wsX7_leastThatFits wsX7_fits := goodIn_r _ [5, 6, 13] (by decide +kernel) (by decide +kernel)
set_option maxRecDepth 20000 in
theorem gX7_leastThatFits_X7_fits : GoodIn wsX7_leastThatFits (wsV RX7 19 RX7 yX7_fits wsX7_fits) := goodIn_app (goodIn_of _ (by decide +kernel)) ggX7_leastThatFits_X7_fits
set_option maxRecDepth 20000 in
theorem ggX7_leastThatFits_X7_numberOf : GoodIn wsX7_leastThatFits wsX7_numberOf := goodIn_r _ [9, 10, 11, 4, 12] (by decide +kernel) (by decide +kernel)
set_option maxRecDepth 20000 in
theorem gX7_leastThatFits_X7_numberOf : GoodIn wsX7_leastThatFits (va_wsS RX7 23 yX7_numberOf wsX7_numberOf) := goodIn_app (goodIn_of _ (by decide +kernel)) ggX7_leastThatFits_X7_numberOf
theorem dX7_leastThatFits_0 : decode cX7_leastThatFits 0 = .ok (.iconst 0, 1) := by decide +kernel
theorem dX7_leastThatFits_1 : decode cX7_leastThatFits 1 = .ok (.istore_n 3, 1) := by decide +kernel
theorem dX7_leastThatFits_2 : decode cX7_leastThatFits 2 = .ok (.iload_n 3, 1) := by decide +kernel
theorem dX7_leastThatFits_3 : decode cX7_leastThatFits 3 = .ok (.sipush 2187, 3) := by decide +kernel
theorem dX7_leastThatFits_6 : decode cX7_leastThatFits 6 = .ok (.if_icmp .ge 24, 3) := by decide +kernel
theorem dX7_leastThatFits_9 : decode cX7_leastThatFits 9 = .ok (.aload_n 0, 1) := by decide +kernel
theorem dX7_leastThatFits_10 : decode cX7_leastThatFits 10 = .ok (.iload_n 3, 1) := by decide +kernel
theorem dX7_leastThatFits_11 : decode cX7_leastThatFits 11 = .ok (.iload_n 1, 1) := by decide +kernel
theorem dX7_leastThatFits_12 : decode cX7_leastThatFits 12 = .ok (.iload_n 2, 1) := by decide +kernel
theorem dX7_leastThatFits_13 : decode cX7_leastThatFits 13 = .ok (.invokevirtual 19, 3) := by decide +kernel
theorem dX7_leastThatFits_16 : decode cX7_leastThatFits 16 = .ok (.ifCond .eq 8, 3) := by decide +kernel
theorem dX7_leastThatFits_19 : decode cX7_leastThatFits 19 = .ok (.iload_n 3, 1) := by decide +kernel
theorem dX7_leastThatFits_20 : decode cX7_leastThatFits 20 = .ok (.invokestatic 23, 3) := by decide +kernel
theorem dX7_leastThatFits_23 : decode cX7_leastThatFits 23 = .ok (.ireturn, 1) := by decide +kernel
theorem dX7_leastThatFits_24 : decode cX7_leastThatFits 24 = .ok (.iinc 3 1, 3) := by decide +kernel
theorem dX7_leastThatFits_27 : decode cX7_leastThatFits 27 = .ok (.goto (-25), 3) := by decide +kernel
theorem dX7_leastThatFits_30 : decode cX7_leastThatFits 30 = .ok (.iconst (-1), 1) := by decide +kernel
theorem dX7_leastThatFits_31 : decode cX7_leastThatFits 31 = .ok (.ireturn, 1) := by decide +kernel
theorem dX7_isSetting_0 : decode cX7_isSetting 0 = .ok (.iload_n 0, 1) := by decide +kernel
theorem dX7_isSetting_1 : decode cX7_isSetting 1 = .ok (.ifCond .lt 14, 3) := by decide +kernel
theorem dX7_isSetting_4 : decode cX7_isSetting 4 = .ok (.iload_n 0, 1) := by decide +kernel
theorem dX7_isSetting_5 : decode cX7_isSetting 5 = .ok (.sipush 2187, 3) := by decide +kernel
theorem dX7_isSetting_8 : decode cX7_isSetting 8 = .ok (.if_icmp .ge 7, 3) := by decide +kernel
theorem dX7_isSetting_11 : decode cX7_isSetting 11 = .ok (.iconst 1, 1) := by decide +kernel
theorem dX7_isSetting_12 : decode cX7_isSetting 12 = .ok (.goto 4, 3) := by decide +kernel
theorem dX7_isSetting_15 : decode cX7_isSetting 15 = .ok (.iconst 0, 1) := by decide +kernel
theorem dX7_isSetting_16 : decode cX7_isSetting 16 = .ok (.ireturn, 1) := by decide +kernel
theorem dX7_toneAt_0 : decode cX7_toneAt 0 = .ok (.getstatic 26, 3) := by decide +kernel
theorem dX7_toneAt_3 : decode cX7_toneAt 3 = .ok (.iload_n 0, 1) := by decide +kernel
theorem dX7_toneAt_4 : decode cX7_toneAt 4 = .ok (.iaload, 1) := by decide +kernel
theorem dX7_toneAt_5 : decode cX7_toneAt 5 = .ok (.iload_n 1, 1) := by decide +kernel
theorem dX7_toneAt_6 : decode cX7_toneAt 6 = .ok (.iadd, 1) := by decide +kernel
theorem dX7_toneAt_7 : decode cX7_toneAt 7 = .ok (.bipush 12, 2) := by decide +kernel
theorem dX7_toneAt_9 : decode cX7_toneAt 9 = .ok (.iadd, 1) := by decide +kernel
theorem dX7_toneAt_10 : decode cX7_toneAt 10 = .ok (.iconst 1, 1) := by decide +kernel
theorem dX7_toneAt_11 : decode cX7_toneAt 11 = .ok (.isub, 1) := by decide +kernel
theorem dX7_toneAt_12 : decode cX7_toneAt 12 = .ok (.bipush 12, 2) := by decide +kernel
theorem dX7_toneAt_14 : decode cX7_toneAt 14 = .ok (.irem, 1) := by decide +kernel
theorem dX7_toneAt_15 : decode cX7_toneAt 15 = .ok (.ireturn, 1) := by decide +kernel
theorem dX7_positionAt_0 : decode cX7_positionAt 0 = .ok (.iload_n 1, 1) := by decide +kernel
theorem dX7_positionAt_1 : decode cX7_positionAt 1 = .ok (.tableswitch 80 0 5 #[39, 45, 53, 60, 67, 74], 39) := by decide +kernel
theorem dX7_positionAt_40 : decode cX7_positionAt 40 = .ok (.iload_n 0, 1) := by decide +kernel
theorem dX7_positionAt_41 : decode cX7_positionAt 41 = .ok (.sipush 729, 3) := by decide +kernel
theorem dX7_positionAt_44 : decode cX7_positionAt 44 = .ok (.idiv, 1) := by decide +kernel
theorem dX7_positionAt_45 : decode cX7_positionAt 45 = .ok (.ireturn, 1) := by decide +kernel
theorem dX7_positionAt_46 : decode cX7_positionAt 46 = .ok (.iload_n 0, 1) := by decide +kernel
theorem dX7_positionAt_47 : decode cX7_positionAt 47 = .ok (.sipush 243, 3) := by decide +kernel
theorem dX7_positionAt_50 : decode cX7_positionAt 50 = .ok (.idiv, 1) := by decide +kernel
theorem dX7_positionAt_51 : decode cX7_positionAt 51 = .ok (.iconst 3, 1) := by decide +kernel
theorem dX7_positionAt_52 : decode cX7_positionAt 52 = .ok (.irem, 1) := by decide +kernel
theorem dX7_positionAt_53 : decode cX7_positionAt 53 = .ok (.ireturn, 1) := by decide +kernel
theorem dX7_positionAt_54 : decode cX7_positionAt 54 = .ok (.iload_n 0, 1) := by decide +kernel
theorem dX7_positionAt_55 : decode cX7_positionAt 55 = .ok (.bipush 81, 2) := by decide +kernel
theorem dX7_positionAt_57 : decode cX7_positionAt 57 = .ok (.idiv, 1) := by decide +kernel
theorem dX7_positionAt_58 : decode cX7_positionAt 58 = .ok (.iconst 3, 1) := by decide +kernel
theorem dX7_positionAt_59 : decode cX7_positionAt 59 = .ok (.irem, 1) := by decide +kernel
theorem dX7_positionAt_60 : decode cX7_positionAt 60 = .ok (.ireturn, 1) := by decide +kernel
theorem dX7_positionAt_61 : decode cX7_positionAt 61 = .ok (.iload_n 0, 1) := by decide +kernel
theorem dX7_positionAt_62 : decode cX7_positionAt 62 = .ok (.bipush 27, 2) := by decide +kernel
theorem dX7_positionAt_64 : decode cX7_positionAt 64 = .ok (.idiv, 1) := by decide +kernel
theorem dX7_positionAt_65 : decode cX7_positionAt 65 = .ok (.iconst 3, 1) := by decide +kernel
theorem dX7_positionAt_66 : decode cX7_positionAt 66 = .ok (.irem, 1) := by decide +kernel
theorem dX7_positionAt_67 : decode cX7_positionAt 67 = .ok (.ireturn, 1) := by decide +kernel
theorem dX7_positionAt_68 : decode cX7_positionAt 68 = .ok (.iload_n 0, 1) := by decide +kernel
theorem dX7_positionAt_69 : decode cX7_positionAt 69 = .ok (.bipush 9, 2) := by decide +kernel
theorem dX7_positionAt_71 : decode cX7_positionAt 71 = .ok (.idiv, 1) := by decide +kernel
theorem dX7_positionAt_72 : decode cX7_positionAt 72 = .ok (.iconst 3, 1) := by decide +kernel
theorem dX7_positionAt_73 : decode cX7_positionAt 73 = .ok (.irem, 1) := by decide +kernel
theorem dX7_positionAt_74 : decode cX7_positionAt 74 = .ok (.ireturn, 1) := by decide +kernel
theorem dX7_positionAt_75 : decode cX7_positionAt 75 = .ok (.iload_n 0, 1) := by decide +kernel
theorem dX7_positionAt_76 : decode cX7_positionAt 76 = .ok (.iconst 3, 1) := by decide +kernel
theorem dX7_positionAt_77 : decode cX7_positionAt 77 = .ok (.idiv, 1) := by decide +kernel
theorem dX7_positionAt_78 : decode cX7_positionAt 78 = .ok (.iconst 3, 1) := by decide +kernel
theorem dX7_positionAt_79 : decode cX7_positionAt 79 = .ok (.irem, 1) := by decide +kernel
theorem dX7_positionAt_80 : decode cX7_positionAt 80 = .ok (.ireturn, 1) := by decide +kernel
theorem dX7_positionAt_81 : decode cX7_positionAt 81 = .ok (.iload_n 0, 1) := by decide +kernel
theorem dX7_positionAt_82 : decode cX7_positionAt 82 = .ok (.iconst 3, 1) := by decide +kernel
theorem dX7_positionAt_83 : decode cX7_positionAt 83 = .ok (.irem, 1) := by decide +kernel
theorem dX7_positionAt_84 : decode cX7_positionAt 84 = .ok (.ireturn, 1) := by decide +kernel
set_option maxRecDepth 20000 in
theorem ggX7_moved_X7_positionAt : GoodIn wsX7_moved wsX7_positionAt := goodIn_r _ [5] (by decide +kernel) (by decide +kernel)
set_option maxRecDepth 20000 in
theorem gX7_moved_X7_positionAt : GoodIn wsX7_moved (va_wsS RX7 29 yX7_positionAt wsX7_positionAt) := goodIn_app (goodIn_of _ (by decide +kernel)) ggX7_moved_X7_positionAt
theorem dX7_moved_0 : decode cX7_moved 0 = .ok (.iload_n 0, 1) := by decide +kernel
theorem dX7_moved_1 : decode cX7_moved 1 = .ok (.iload_n 2, 1) := by decide +kernel
theorem dX7_moved_2 : decode cX7_moved 2 = .ok (.iload_n 0, 1) := by decide +kernel
theorem dX7_moved_3 : decode cX7_moved 3 = .ok (.iload_n 1, 1) := by decide +kernel
theorem dX7_moved_4 : decode cX7_moved 4 = .ok (.invokestatic 29, 3) := by decide +kernel
theorem dX7_moved_7 : decode cX7_moved 7 = .ok (.isub, 1) := by decide +kernel
theorem dX7_moved_8 : decode cX7_moved 8 = .ok (.getstatic 33, 3) := by decide +kernel
theorem dX7_moved_11 : decode cX7_moved 11 = .ok (.iload_n 1, 1) := by decide +kernel
theorem dX7_moved_12 : decode cX7_moved 12 = .ok (.iaload, 1) := by decide +kernel
theorem dX7_moved_13 : decode cX7_moved 13 = .ok (.imul, 1) := by decide +kernel
theorem dX7_moved_14 : decode cX7_moved 14 = .ok (.iadd, 1) := by decide +kernel
theorem dX7_moved_15 : decode cX7_moved 15 = .ok (.ireturn, 1) := by decide +kernel
set_option maxRecDepth 20000 in
theorem ggX7_numberOf_X7_positionAt : GoodIn wsX7_numberOf wsX7_positionAt := goodIn_r _ [4] (by decide +kernel) (by decide +kernel)
set_option maxRecDepth 20000 in
theorem gX7_numberOf_X7_positionAt : GoodIn wsX7_numberOf (va_wsS RX7 29 yX7_positionAt wsX7_positionAt) := goodIn_app (goodIn_of _ (by decide +kernel)) ggX7_numberOf_X7_positionAt
theorem dX7_numberOf_0 : decode cX7_numberOf 0 = .ok (.iconst 0, 1) := by decide +kernel
theorem dX7_numberOf_1 : decode cX7_numberOf 1 = .ok (.istore_n 1, 1) := by decide +kernel
theorem dX7_numberOf_2 : decode cX7_numberOf 2 = .ok (.iconst 0, 1) := by decide +kernel
theorem dX7_numberOf_3 : decode cX7_numberOf 3 = .ok (.istore_n 2, 1) := by decide +kernel
theorem dX7_numberOf_4 : decode cX7_numberOf 4 = .ok (.iload_n 2, 1) := by decide +kernel
theorem dX7_numberOf_5 : decode cX7_numberOf 5 = .ok (.bipush 7, 2) := by decide +kernel
theorem dX7_numberOf_7 : decode cX7_numberOf 7 = .ok (.if_icmp .ge 20, 3) := by decide +kernel
theorem dX7_numberOf_10 : decode cX7_numberOf 10 = .ok (.iload_n 1, 1) := by decide +kernel
theorem dX7_numberOf_11 : decode cX7_numberOf 11 = .ok (.bipush 10, 2) := by decide +kernel
theorem dX7_numberOf_13 : decode cX7_numberOf 13 = .ok (.imul, 1) := by decide +kernel
theorem dX7_numberOf_14 : decode cX7_numberOf 14 = .ok (.iload_n 0, 1) := by decide +kernel
theorem dX7_numberOf_15 : decode cX7_numberOf 15 = .ok (.iload_n 2, 1) := by decide +kernel
theorem dX7_numberOf_16 : decode cX7_numberOf 16 = .ok (.invokestatic 29, 3) := by decide +kernel
theorem dX7_numberOf_19 : decode cX7_numberOf 19 = .ok (.iadd, 1) := by decide +kernel
theorem dX7_numberOf_20 : decode cX7_numberOf 20 = .ok (.istore_n 1, 1) := by decide +kernel
theorem dX7_numberOf_21 : decode cX7_numberOf 21 = .ok (.iinc 2 1, 3) := by decide +kernel
theorem dX7_numberOf_24 : decode cX7_numberOf 24 = .ok (.goto (-20), 3) := by decide +kernel
theorem dX7_numberOf_27 : decode cX7_numberOf 27 = .ok (.iload_n 1, 1) := by decide +kernel
theorem dX7_numberOf_28 : decode cX7_numberOf 28 = .ok (.ireturn, 1) := by decide +kernel
set_option maxRecDepth 20000 in
theorem ggX7_tonesOfPedals_X7_positionAt : GoodIn wsX7_tonesOfPedals wsX7_positionAt := goodIn_r _ [4] (by decide +kernel) (by decide +kernel)
set_option maxRecDepth 20000 in
theorem gX7_tonesOfPedals_X7_positionAt : GoodIn wsX7_tonesOfPedals (va_wsS RX7 29 yX7_positionAt wsX7_positionAt) := goodIn_app (goodIn_of _ (by decide +kernel)) ggX7_tonesOfPedals_X7_positionAt
set_option maxRecDepth 20000 in
theorem ggX7_tonesOfPedals_X7_toneAt : GoodIn wsX7_tonesOfPedals wsX7_toneAt := goodIn_r _ [7, 8] (by decide +kernel) (by decide +kernel)
set_option maxRecDepth 20000 in
theorem gX7_tonesOfPedals_X7_toneAt : GoodIn wsX7_tonesOfPedals (va_wsS RX7 36 yX7_toneAt wsX7_toneAt) := goodIn_app (goodIn_of _ (by decide +kernel)) ggX7_tonesOfPedals_X7_toneAt
theorem dX7_tonesOfPedals_0 : decode cX7_tonesOfPedals 0 = .ok (.iconst 0, 1) := by decide +kernel
theorem dX7_tonesOfPedals_1 : decode cX7_tonesOfPedals 1 = .ok (.istore_n 1, 1) := by decide +kernel
theorem dX7_tonesOfPedals_2 : decode cX7_tonesOfPedals 2 = .ok (.iconst 0, 1) := by decide +kernel
theorem dX7_tonesOfPedals_3 : decode cX7_tonesOfPedals 3 = .ok (.istore_n 2, 1) := by decide +kernel
theorem dX7_tonesOfPedals_4 : decode cX7_tonesOfPedals 4 = .ok (.iload_n 2, 1) := by decide +kernel
theorem dX7_tonesOfPedals_5 : decode cX7_tonesOfPedals 5 = .ok (.bipush 7, 2) := by decide +kernel
theorem dX7_tonesOfPedals_7 : decode cX7_tonesOfPedals 7 = .ok (.if_icmp .ge 23, 3) := by decide +kernel
theorem dX7_tonesOfPedals_10 : decode cX7_tonesOfPedals 10 = .ok (.iload_n 1, 1) := by decide +kernel
theorem dX7_tonesOfPedals_11 : decode cX7_tonesOfPedals 11 = .ok (.iconst 1, 1) := by decide +kernel
theorem dX7_tonesOfPedals_12 : decode cX7_tonesOfPedals 12 = .ok (.iload_n 2, 1) := by decide +kernel
theorem dX7_tonesOfPedals_13 : decode cX7_tonesOfPedals 13 = .ok (.iload_n 0, 1) := by decide +kernel
theorem dX7_tonesOfPedals_14 : decode cX7_tonesOfPedals 14 = .ok (.iload_n 2, 1) := by decide +kernel
theorem dX7_tonesOfPedals_15 : decode cX7_tonesOfPedals 15 = .ok (.invokestatic 29, 3) := by decide +kernel
theorem dX7_tonesOfPedals_18 : decode cX7_tonesOfPedals 18 = .ok (.invokestatic 36, 3) := by decide +kernel
theorem dX7_tonesOfPedals_21 : decode cX7_tonesOfPedals 21 = .ok (.ishl, 1) := by decide +kernel
theorem dX7_tonesOfPedals_22 : decode cX7_tonesOfPedals 22 = .ok (.ior, 1) := by decide +kernel
theorem dX7_tonesOfPedals_23 : decode cX7_tonesOfPedals 23 = .ok (.istore_n 1, 1) := by decide +kernel
theorem dX7_tonesOfPedals_24 : decode cX7_tonesOfPedals 24 = .ok (.iinc 2 1, 3) := by decide +kernel
theorem dX7_tonesOfPedals_27 : decode cX7_tonesOfPedals 27 = .ok (.goto (-23), 3) := by decide +kernel
theorem dX7_tonesOfPedals_30 : decode cX7_tonesOfPedals 30 = .ok (.iload_n 1, 1) := by decide +kernel
theorem dX7_tonesOfPedals_31 : decode cX7_tonesOfPedals 31 = .ok (.ireturn, 1) := by decide +kernel
