set_option maxRecDepth 20000 in
theorem ggX8_init_X1_init : GoodIn wsX8_init wsX1_init := goodIn_r _ [35, 36, 2, 3, 37, 38, 96, 97] (by decide +kernel) (by decide +kernel)
set_option maxRecDepth 20000 in
theorem gX8_init_X1_init_n9 : GoodIn wsX8_init (wsX1_init) := ggX8_init_X1_init
set_option maxRecDepth 20000 in
theorem ggX8_init_X5_init : GoodIn wsX8_init wsX5_init := goodIn_r _ [40, 41, 2, 3, 42, 13, 14, 43, 44, 45, 46, 37, 47, 48, 112, 113, 114, 115, 109, 110, 111] (by decide +kernel) (by decide +kernel)
set_option maxRecDepth 20000 in
theorem gX8_init_X5_init_n18 : GoodIn wsX8_init (wsX5_init) := ggX8_init_X5_init
set_option maxRecDepth 20000 in
theorem ggX8_init_X2_init : GoodIn wsX8_init wsX2_init := goodIn_r _ [45, 46, 2, 3, 37, 47, 48, 112, 113, 114, 115] (by decide +kernel) (by decide +kernel)
set_option maxRecDepth 20000 in
theorem gX8_init_X2_init_n25 : GoodIn wsX8_init (wsX2_init) := ggX8_init_X2_init
set_option maxRecDepth 20000 in
theorem ggX8_init_X6_init : GoodIn wsX8_init wsX6_init := goodIn_r _ [50, 51, 2, 3, 37, 52, 53, 116, 117, 118] (by decide +kernel) (by decide +kernel)
set_option maxRecDepth 20000 in
theorem gX8_init_X6_init_n35 : GoodIn wsX8_init (wsX6_init) := ggX8_init_X6_init
set_option maxRecDepth 20000 in
theorem ggX8_init_X7_init : GoodIn wsX8_init wsX7_init := goodIn_r _ [56, 57, 2, 3, 37, 58, 59, 60, 24, 61, 62, 63, 64, 65, 66, 67, 68, 119] (by decide +kernel) (by decide +kernel)
set_option maxRecDepth 20000 in
theorem gX8_init_X7_init : GoodIn wsX8_init (wsX7_init) := ggX8_init_X7_init
set_option maxRecDepth 20000 in
theorem ggX8_init_X3_init : GoodIn wsX8_init wsX3_init := goodIn_r _ [71, 72, 2, 3, 73, 74, 75, 76, 37, 77, 78, 79, 80, 81, 82, 83, 84, 85, 86, 87, 88, 138, 139, 120, 121, 122, 123, 124, 125, 126, 127, 128, 129, 130, 131] (by decide +kernel) (by decide +kernel)
set_option maxRecDepth 20000 in
theorem gX8_init_X3_init : GoodIn wsX8_init (wsX3_init) := ggX8_init_X3_init
set_option maxRecDepth 20000 in
theorem ggX8_init_X4_init : GoodIn wsX8_init wsX4_init := goodIn_r _ [91, 92, 2, 3, 93, 74, 75, 94, 95, 86, 87, 88, 138, 139, 132, 133, 134, 135, 136, 137] (by decide +kernel) (by decide +kernel)
set_option maxRecDepth 20000 in
theorem gX8_init_X4_init : GoodIn wsX8_init (wsX4_init) := ggX8_init_X4_init
theorem dX8_init_0 : decode cX8_init 0 = .ok (.aload_n 0, 1) := by decide +kernel
theorem dX8_init_1 : decode cX8_init 1 = .ok (.invokespecial 1, 3) := by decide +kernel
theorem dX8_init_4 : decode cX8_init 4 = .ok (.aload_n 0, 1) := by decide +kernel
theorem dX8_init_5 : decode cX8_init 5 = .ok (.new 7, 3) := by decide +kernel
theorem dX8_init_8 : decode cX8_init 8 = .ok (.dup, 1) := by decide +kernel
theorem dX8_init_9 : decode cX8_init 9 = .ok (.invokespecial 9, 3) := by decide +kernel
theorem dX8_init_12 : decode cX8_init 12 = .ok (.putfield 10, 3) := by decide +kernel
theorem dX8_init_15 : decode cX8_init 15 = .ok (.aload_n 0, 1) := by decide +kernel
theorem dX8_init_16 : decode cX8_init 16 = .ok (.new 16, 3) := by decide +kernel
theorem dX8_init_19 : decode cX8_init 19 = .ok (.dup, 1) := by decide +kernel
theorem dX8_init_20 : decode cX8_init 20 = .ok (.invokespecial 18, 3) := by decide +kernel
theorem dX8_init_23 : decode cX8_init 23 = .ok (.putfield 19, 3) := by decide +kernel
theorem dX8_init_26 : decode cX8_init 26 = .ok (.aload_n 0, 1) := by decide +kernel
theorem dX8_init_27 : decode cX8_init 27 = .ok (.new 23, 3) := by decide +kernel
theorem dX8_init_30 : decode cX8_init 30 = .ok (.dup, 1) := by decide +kernel
theorem dX8_init_31 : decode cX8_init 31 = .ok (.invokespecial 25, 3) := by decide +kernel
theorem dX8_init_34 : decode cX8_init 34 = .ok (.putfield 26, 3) := by decide +kernel
theorem dX8_init_37 : decode cX8_init 37 = .ok (.aload_n 0, 1) := by decide +kernel
theorem dX8_init_38 : decode cX8_init 38 = .ok (.new 23, 3) := by decide +kernel
theorem dX8_init_41 : decode cX8_init 41 = .ok (.dup, 1) := by decide +kernel
theorem dX8_init_42 : decode cX8_init 42 = .ok (.invokespecial 25, 3) := by decide +kernel
theorem dX8_init_45 : decode cX8_init 45 = .ok (.putfield 30, 3) := by decide +kernel
theorem dX8_init_48 : decode cX8_init 48 = .ok (.aload_n 0, 1) := by decide +kernel
theorem dX8_init_49 : decode cX8_init 49 = .ok (.new 33, 3) := by decide +kernel
theorem dX8_init_52 : decode cX8_init 52 = .ok (.dup, 1) := by decide +kernel
theorem dX8_init_53 : decode cX8_init 53 = .ok (.invokespecial 35, 3) := by decide +kernel
theorem dX8_init_56 : decode cX8_init 56 = .ok (.putfield 36, 3) := by decide +kernel
theorem dX8_init_59 : decode cX8_init 59 = .ok (.aload_n 0, 1) := by decide +kernel
theorem dX8_init_60 : decode cX8_init 60 = .ok (.new 33, 3) := by decide +kernel
theorem dX8_init_63 : decode cX8_init 63 = .ok (.dup, 1) := by decide +kernel
theorem dX8_init_64 : decode cX8_init 64 = .ok (.invokespecial 35, 3) := by decide +kernel
theorem dX8_init_67 : decode cX8_init 67 = .ok (.putfield 40, 3) := by decide +kernel
theorem dX8_init_70 : decode cX8_init 70 = .ok (.aload_n 0, 1) := by decide +kernel
theorem dX8_init_71 : decode cX8_init 71 = .ok (.new 43, 3) := by decide +kernel
theorem dX8_init_74 : decode cX8_init 74 = .ok (.dup, 1) := by decide +kernel
theorem dX8_init_75 : decode cX8_init 75 = .ok (.invokespecial 45, 3) := by decide +kernel
theorem dX8_init_78 : decode cX8_init 78 = .ok (.putfield 46, 3) := by decide +kernel
theorem dX8_init_81 : decode cX8_init 81 = .ok (.aload_n 0, 1) := by decide +kernel
theorem dX8_init_82 : decode cX8_init 82 = .ok (.new 50, 3) := by decide +kernel
theorem dX8_init_85 : decode cX8_init 85 = .ok (.dup, 1) := by decide +kernel
theorem dX8_init_86 : decode cX8_init 86 = .ok (.aload_n 0, 1) := by decide +kernel
theorem dX8_init_87 : decode cX8_init 87 = .ok (.getfield 46, 3) := by decide +kernel
theorem dX8_init_90 : decode cX8_init 90 = .ok (.invokespecial 52, 3) := by decide +kernel
theorem dX8_init_93 : decode cX8_init 93 = .ok (.putfield 55, 3) := by decide +kernel
theorem dX8_init_96 : decode cX8_init 96 = .ok (.aload_n 0, 1) := by decide +kernel
theorem dX8_init_97 : decode cX8_init 97 = .ok (.new 59, 3) := by decide +kernel
theorem dX8_init_100 : decode cX8_init 100 = .ok (.dup, 1) := by decide +kernel
theorem dX8_init_101 : decode cX8_init 101 = .ok (.aload_n 0, 1) := by decide +kernel
theorem dX8_init_102 : decode cX8_init 102 = .ok (.getfield 46, 3) := by decide +kernel
theorem dX8_init_105 : decode cX8_init 105 = .ok (.invokespecial 61, 3) := by decide +kernel
theorem dX8_init_108 : decode cX8_init 108 = .ok (.putfield 62, 3) := by decide +kernel
theorem dX8_init_111 : decode cX8_init 111 = .ok (.return_, 1) := by decide +kernel
set_option maxRecDepth 20000 in
theorem ggX8_letter_X1_append : GoodIn wsX8_letter wsX1_append := goodIn_r _ [6, 7, 8, 20, 21] (by decide +kernel) (by decide +kernel)
set_option maxRecDepth 20000 in
theorem gX8_letter_X1_append : GoodIn wsX8_letter (wsV RX8 66 RX1 yX1_append wsX1_append) := goodIn_app (goodIn_of _ (by decide +kernel)) ggX8_letter_X1_append
theorem dX8_letter_0 : decode cX8_letter 0 = .ok (.iload_n 1, 1) := by decide +kernel
theorem dX8_letter_1 : decode cX8_letter 1 = .ok (.iconst 1, 1) := by decide +kernel
theorem dX8_letter_2 : decode cX8_letter 2 = .ok (.if_icmp .lt 9, 3) := by decide +kernel
theorem dX8_letter_5 : decode cX8_letter 5 = .ok (.iload_n 1, 1) := by decide +kernel
theorem dX8_letter_6 : decode cX8_letter 6 = .ok (.bipush 126, 2) := by decide +kernel
theorem dX8_letter_8 : decode cX8_letter 8 = .ok (.if_icmp .le 6, 3) := by decide +kernel
theorem dX8_letter_11 : decode cX8_letter 11 = .ok (.bipush (-102), 2) := by decide +kernel
theorem dX8_letter_13 : decode cX8_letter 13 = .ok (.ireturn, 1) := by decide +kernel
theorem dX8_letter_14 : decode cX8_letter 14 = .ok (.aload_n 0, 1) := by decide +kernel
theorem dX8_letter_15 : decode cX8_letter 15 = .ok (.getfield 10, 3) := by decide +kernel
theorem dX8_letter_18 : decode cX8_letter 18 = .ok (.iload_n 1, 1) := by decide +kernel
theorem dX8_letter_19 : decode cX8_letter 19 = .ok (.invokevirtual 66, 3) := by decide +kernel
theorem dX8_letter_22 : decode cX8_letter 22 = .ok (.ifCond .eq 13, 3) := by decide +kernel
theorem dX8_letter_25 : decode cX8_letter 25 = .ok (.aload_n 0, 1) := by decide +kernel
theorem dX8_letter_26 : decode cX8_letter 26 = .ok (.getfield 10, 3) := by decide +kernel
theorem dX8_letter_29 : decode cX8_letter 29 = .ok (.getfield 70, 3) := by decide +kernel
theorem dX8_letter_32 : decode cX8_letter 32 = .ok (.goto 5, 3) := by decide +kernel
theorem dX8_letter_35 : decode cX8_letter 35 = .ok (.bipush (-104), 2) := by decide +kernel
theorem dX8_letter_37 : decode cX8_letter 37 = .ok (.ireturn, 1) := by decide +kernel
set_option maxRecDepth 20000 in
theorem ggX8_blank_X1_clear : GoodIn wsX8_blank wsX1_clear := goodIn_r _ [6, 7, 19, 20] (by decide +kernel) (by decide +kernel)
set_option maxRecDepth 20000 in
theorem gX8_blank_X1_clear : GoodIn wsX8_blank (wsV RX8 74 RX1 yX1_clear wsX1_clear) := goodIn_app (goodIn_of _ (by decide +kernel)) ggX8_blank_X1_clear
theorem dX8_blank_0 : decode cX8_blank 0 = .ok (.aload_n 0, 1) := by decide +kernel
theorem dX8_blank_1 : decode cX8_blank 1 = .ok (.getfield 10, 3) := by decide +kernel
theorem dX8_blank_4 : decode cX8_blank 4 = .ok (.invokevirtual 74, 3) := by decide +kernel
theorem dX8_blank_7 : decode cX8_blank 7 = .ok (.ireturn, 1) := by decide +kernel
set_option maxRecDepth 20000 in
theorem ggX8_fault_X1_readBy : GoodIn wsX8_fault wsX1_readBy := goodIn_r _ [7, 8, 9, 10, 11, 12, 13, 14, 15, 16, 17, 18, 19, 20, 21, 22, 23, 24, 25, 26, 27, 28, 29, 30, 31, 32, 33, 34, 35, 36, 37, 38, 39, 40, 41, 42, 43, 44, 45, 46, 47, 48, 49, 50, 51, 52, 53, 54, 55, 56, 57, 58, 59, 60, 61, 62, 63, 64, 65, 66, 67, 68, 69, 70, 71, 83, 84, 85, 86, 87, 88, 89, 90, 91] (by decide +kernel) (by decide +kernel)
set_option maxRecDepth 20000 in
theorem gX8_fault_X1_readBy : GoodIn wsX8_fault (wsV RX8 78 RX1 yX1_readBy wsX1_readBy) := goodIn_app (goodIn_of _ (by decide +kernel)) ggX8_fault_X1_readBy
theorem dX8_fault_0 : decode cX8_fault 0 = .ok (.aload_n 0, 1) := by decide +kernel
theorem dX8_fault_1 : decode cX8_fault 1 = .ok (.getfield 10, 3) := by decide +kernel
theorem dX8_fault_4 : decode cX8_fault 4 = .ok (.aload_n 0, 1) := by decide +kernel
theorem dX8_fault_5 : decode cX8_fault 5 = .ok (.getfield 19, 3) := by decide +kernel
theorem dX8_fault_8 : decode cX8_fault 8 = .ok (.invokevirtual 78, 3) := by decide +kernel
theorem dX8_fault_11 : decode cX8_fault 11 = .ok (.ireturn, 1) := by decide +kernel
set_option maxRecDepth 20000 in
theorem ggX8_part_X1_readBy : GoodIn wsX8_part wsX1_readBy := goodIn_r _ [12, 13, 14, 15, 16, 17, 18, 19, 20, 21, 22, 23, 24, 25, 26, 27, 28, 29, 30, 31, 32, 33, 34, 35, 36, 37, 38, 39, 40, 41, 42, 43, 44, 45, 46, 47, 48, 49, 50, 51, 52, 53, 54, 55, 56, 57, 58, 59, 60, 61, 62, 63, 64, 65, 66, 67, 68, 69, 70, 71, 72, 73, 74, 75, 76, 118, 119, 120, 121, 122, 123, 124, 125, 126] (by decide +kernel) (by decide +kernel)
set_option maxRecDepth 20000 in
theorem gX8_part_X1_readBy : GoodIn wsX8_part (wsV RX8 78 RX1 yX1_readBy wsX1_readBy) := goodIn_app (goodIn_of _ (by decide +kernel)) ggX8_part_X1_readBy
set_option maxRecDepth 20000 in
theorem ggX8_part_X5_isWhole : GoodIn wsX8_part wsX5_isWhole := goodIn_r _ [80, 22, 20, 58, 59, 60, 26, 61, 29, 53, 120, 121, 122, 123, 124, 125, 126] (by decide +kernel) (by decide +kernel)
set_option maxRecDepth 20000 in
theorem gX8_part_X5_isWhole : GoodIn wsX8_part (wsV RX8 82 RX5 yX5_isWhole wsX5_isWhole) := goodIn_app (goodIn_of _ (by decide +kernel)) ggX8_part_X5_isWhole
set_option maxRecDepth 20000 in
theorem ggX8_part_X2_become : GoodIn wsX8_part wsX2_become := goodIn_r _ [84, 28, 29, 52, 85, 86, 87, 88, 53, 123, 124, 125, 126] (by decide +kernel) (by decide +kernel)
set_option maxRecDepth 20000 in
theorem gX8_part_X2_become : GoodIn wsX8_part (wsV RX8 89 RX2 yX2_become wsX2_become) := goodIn_app (goodIn_of _ (by decide +kernel)) ggX8_part_X2_become
set_option maxRecDepth 20000 in
theorem ggX8_part_X3_makeStale : GoodIn wsX8_part wsX3_makeStale := goodIn_r _ [93, 94, 95, 127, 128, 129, 130, 131, 132, 133, 134, 135, 136, 137, 138] (by decide +kernel) (by decide +kernel)
set_option maxRecDepth 20000 in
theorem gX8_part_X3_makeStale : GoodIn wsX8_part (wsV RX8 93 RX3 yX3_makeStale wsX3_makeStale) := goodIn_app (goodIn_of _ (by decide +kernel)) ggX8_part_X3_makeStale
set_option maxRecDepth 20000 in
theorem ggX8_part_X6_clear : GoodIn wsX8_part wsX6_clear := goodIn_r _ [100, 101, 139, 140, 141] (by decide +kernel) (by decide +kernel)
set_option maxRecDepth 20000 in
theorem gX8_part_X6_clear : GoodIn wsX8_part (wsV RX8 96 RX6 yX6_clear wsX6_clear) := goodIn_app (goodIn_of _ (by decide +kernel)) ggX8_part_X6_clear
set_option maxRecDepth 20000 in
theorem ggX8_part_X2_clear : GoodIn wsX8_part wsX2_clear := goodIn_r _ [27, 28, 29, 123, 124, 125, 126] (by decide +kernel) (by decide +kernel)
set_option maxRecDepth 20000 in
theorem gX8_part_X2_clear : GoodIn wsX8_part (wsV RX8 97 RX2 yX2_clear wsX2_clear) := goodIn_app (goodIn_of _ (by decide +kernel)) ggX8_part_X2_clear
set_option maxRecDepth 20000 in
theorem ggX8_part_X1_clear : GoodIn wsX8_part wsX1_clear := goodIn_r _ [106, 13, 118, 119] (by decide +kernel) (by decide +kernel)
set_option maxRecDepth 20000 in
theorem gX8_part_X1_clear : GoodIn wsX8_part (wsV RX8 74 RX1 yX1_clear wsX1_clear) := goodIn_app (goodIn_of _ (by decide +kernel)) ggX8_part_X1_clear
theorem dX8_part_0 : decode cX8_part 0 = .ok (.aload_n 0, 1) := by decide +kernel
theorem dX8_part_1 : decode cX8_part 1 = .ok (.getfield 10, 3) := by decide +kernel
theorem dX8_part_4 : decode cX8_part 4 = .ok (.aload_n 0, 1) := by decide +kernel
theorem dX8_part_5 : decode cX8_part 5 = .ok (.getfield 19, 3) := by decide +kernel
theorem dX8_part_8 : decode cX8_part 8 = .ok (.invokevirtual 78, 3) := by decide +kernel
theorem dX8_part_11 : decode cX8_part 11 = .ok (.aload_n 0, 1) := by decide +kernel
theorem dX8_part_12 : decode cX8_part 12 = .ok (.getfield 10, 3) := by decide +kernel
theorem dX8_part_15 : decode cX8_part 15 = .ok (.getfield 70, 3) := by decide +kernel
theorem dX8_part_18 : decode cX8_part 18 = .ok (.if_icmp .lt 13, 3) := by decide +kernel
theorem dX8_part_21 : decode cX8_part 21 = .ok (.aload_n 0, 1) := by decide +kernel
theorem dX8_part_22 : decode cX8_part 22 = .ok (.getfield 19, 3) := by decide +kernel
theorem dX8_part_25 : decode cX8_part 25 = .ok (.invokevirtual 82, 3) := by decide +kernel
theorem dX8_part_28 : decode cX8_part 28 = .ok (.ifCond .ne 6, 3) := by decide +kernel
theorem dX8_part_31 : decode cX8_part 31 = .ok (.bipush (-103), 2) := by decide +kernel
theorem dX8_part_33 : decode cX8_part 33 = .ok (.ireturn, 1) := by decide +kernel
theorem dX8_part_34 : decode cX8_part 34 = .ok (.aload_n 0, 1) := by decide +kernel
theorem dX8_part_35 : decode cX8_part 35 = .ok (.getfield 26, 3) := by decide +kernel
theorem dX8_part_38 : decode cX8_part 38 = .ok (.aload_n 0, 1) := by decide +kernel
theorem dX8_part_39 : decode cX8_part 39 = .ok (.getfield 19, 3) := by decide +kernel
theorem dX8_part_42 : decode cX8_part 42 = .ok (.getfield 86, 3) := by decide +kernel
theorem dX8_part_45 : decode cX8_part 45 = .ok (.invokevirtual 89, 3) := by decide +kernel
theorem dX8_part_48 : decode cX8_part 48 = .ok (.aload_n 0, 1) := by decide +kernel
theorem dX8_part_49 : decode cX8_part 49 = .ok (.getfield 55, 3) := by decide +kernel
theorem dX8_part_52 : decode cX8_part 52 = .ok (.invokevirtual 93, 3) := by decide +kernel
theorem dX8_part_55 : decode cX8_part 55 = .ok (.aload_n 0, 1) := by decide +kernel
theorem dX8_part_56 : decode cX8_part 56 = .ok (.getfield 36, 3) := by decide +kernel
theorem dX8_part_59 : decode cX8_part 59 = .ok (.invokevirtual 96, 3) := by decide +kernel
theorem dX8_part_62 : decode cX8_part 62 = .ok (.pop, 1) := by decide +kernel
theorem dX8_part_63 : decode cX8_part 63 = .ok (.aload_n 0, 1) := by decide +kernel
theorem dX8_part_64 : decode cX8_part 64 = .ok (.getfield 30, 3) := by decide +kernel
theorem dX8_part_67 : decode cX8_part 67 = .ok (.invokevirtual 97, 3) := by decide +kernel
theorem dX8_part_70 : decode cX8_part 70 = .ok (.aload_n 0, 1) := by decide +kernel
theorem dX8_part_71 : decode cX8_part 71 = .ok (.getfield 10, 3) := by decide +kernel
theorem dX8_part_74 : decode cX8_part 74 = .ok (.invokevirtual 74, 3) := by decide +kernel
theorem dX8_part_77 : decode cX8_part 77 = .ok (.pop, 1) := by decide +kernel
theorem dX8_part_78 : decode cX8_part 78 = .ok (.aload_n 0, 1) := by decide +kernel
theorem dX8_part_79 : decode cX8_part 79 = .ok (.dup, 1) := by decide +kernel
theorem dX8_part_80 : decode cX8_part 80 = .ok (.getfield 99, 3) := by decide +kernel
theorem dX8_part_83 : decode cX8_part 83 = .ok (.iconst 1, 1) := by decide +kernel
theorem dX8_part_84 : decode cX8_part 84 = .ok (.iadd, 1) := by decide +kernel
theorem dX8_part_85 : decode cX8_part 85 = .ok (.putfield 99, 3) := by decide +kernel
theorem dX8_part_88 : decode cX8_part 88 = .ok (.aload_n 0, 1) := by decide +kernel
theorem dX8_part_89 : decode cX8_part 89 = .ok (.getfield 26, 3) := by decide +kernel
theorem dX8_part_92 : decode cX8_part 92 = .ok (.getfield 102, 3) := by decide +kernel
theorem dX8_part_95 : decode cX8_part 95 = .ok (.ireturn, 1) := by decide +kernel
set_option maxRecDepth 20000 in
theorem ggX8_chord_X2_has : GoodIn wsX8_chord wsX2_has := goodIn_r _ [8, 9, 69, 70, 71, 72] (by decide +kernel) (by decide +kernel)
set_option maxRecDepth 20000 in
theorem gX8_chord_X2_has : GoodIn wsX8_chord (wsV RX8 103 RX2 yX2_has wsX2_has) := goodIn_app (goodIn_of _ (by decide +kernel)) ggX8_chord_X2_has
set_option maxRecDepth 20000 in
theorem ggX8_chord_X7_howManyFit : GoodIn wsX8_chord wsX7_howManyFit := goodIn_r _ [14, 15, 16, 17, 13, 18, 19, 73] (by decide +kernel) (by decide +kernel)
set_option maxRecDepth 20000 in
theorem gX8_chord_X7_howManyFit : GoodIn wsX8_chord (wsV RX8 113 RX7 yX7_howManyFit wsX7_howManyFit) := goodIn_app (goodIn_of _ (by decide +kernel)) ggX8_chord_X7_howManyFit
set_option maxRecDepth 20000 in
theorem ggX8_chord_X7_leastThatFits : GoodIn wsX8_chord wsX7_leastThatFits := goodIn_r _ [23, 15, 16, 17, 13, 18, 19, 24, 25, 26, 27, 28, 29, 73] (by decide +kernel) (by decide +kernel)
set_option maxRecDepth 20000 in
theorem gX8_chord_X7_leastThatFits : GoodIn wsX8_chord (wsV RX8 117 RX7 yX7_leastThatFits wsX7_leastThatFits) := goodIn_app (goodIn_of _ (by decide +kernel)) ggX8_chord_X7_leastThatFits
set_option maxRecDepth 20000 in
theorem ggX8_chord_X6_sortsOf : GoodIn wsX8_chord wsX6_sortsOf := goodIn_r _ [34, 35, 36, 37, 74, 75, 76] (by decide +kernel) (by decide +kernel)
set_option maxRecDepth 20000 in
theorem gX8_chord_X6_sortsOf : GoodIn wsX8_chord (wsV RX8 120 RX6 yX6_sortsOf wsX6_sortsOf) := goodIn_app (goodIn_of _ (by decide +kernel)) ggX8_chord_X6_sortsOf
set_option maxRecDepth 20000 in
theorem ggX8_chord_X6_nextQuestion : GoodIn wsX8_chord wsX6_nextQuestion := goodIn_r _ [41, 42, 43, 31, 32, 33, 34, 35, 36, 37, 44, 45, 46, 47, 48, 49, 50, 51, 52, 53, 54, 55, 56, 57, 74, 75, 76] (by decide +kernel) (by decide +kernel)
set_option maxRecDepth 20000 in
theorem gX8_chord_X6_nextQuestion : GoodIn wsX8_chord (wsV RX8 124 RX6 yX6_nextQuestion wsX6_nextQuestion) := goodIn_app (goodIn_of _ (by decide +kernel)) ggX8_chord_X6_nextQuestion
theorem dX8_chord_0 : decode cX8_chord 0 = .ok (.aload_n 0, 1) := by decide +kernel
theorem dX8_chord_1 : decode cX8_chord 1 = .ok (.getfield 26, 3) := by decide +kernel
theorem dX8_chord_4 : decode cX8_chord 4 = .ok (.iload_n 1, 1) := by decide +kernel
theorem dX8_chord_5 : decode cX8_chord 5 = .ok (.invokevirtual 103, 3) := by decide +kernel
theorem dX8_chord_8 : decode cX8_chord 8 = .ok (.ifCond .ne 6, 3) := by decide +kernel
theorem dX8_chord_11 : decode cX8_chord 11 = .ok (.bipush (-101), 2) := by decide +kernel
theorem dX8_chord_13 : decode cX8_chord 13 = .ok (.ireturn, 1) := by decide +kernel
theorem dX8_chord_14 : decode cX8_chord 14 = .ok (.iload_n 2, 1) := by decide +kernel
theorem dX8_chord_15 : decode cX8_chord 15 = .ok (.tableswitch 127 0 5 #[37, 47, 57, 83, 109, 118], 37) := by decide +kernel
theorem dX8_chord_52 : decode cX8_chord 52 = .ok (.aload_n 0, 1) := by decide +kernel
theorem dX8_chord_53 : decode cX8_chord 53 = .ok (.getfield 26, 3) := by decide +kernel
theorem dX8_chord_56 : decode cX8_chord 56 = .ok (.getfield 106, 3) := by decide +kernel
theorem dX8_chord_59 : decode cX8_chord 59 = .ok (.iload_n 1, 1) := by decide +kernel
theorem dX8_chord_60 : decode cX8_chord 60 = .ok (.iaload, 1) := by decide +kernel
theorem dX8_chord_61 : decode cX8_chord 61 = .ok (.ireturn, 1) := by decide +kernel
theorem dX8_chord_62 : decode cX8_chord 62 = .ok (.aload_n 0, 1) := by decide +kernel
theorem dX8_chord_63 : decode cX8_chord 63 = .ok (.getfield 26, 3) := by decide +kernel
theorem dX8_chord_66 : decode cX8_chord 66 = .ok (.getfield 110, 3) := by decide +kernel
theorem dX8_chord_69 : decode cX8_chord 69 = .ok (.iload_n 1, 1) := by decide +kernel
theorem dX8_chord_70 : decode cX8_chord 70 = .ok (.iaload, 1) := by decide +kernel
theorem dX8_chord_71 : decode cX8_chord 71 = .ok (.ireturn, 1) := by decide +kernel
theorem dX8_chord_72 : decode cX8_chord 72 = .ok (.aload_n 0, 1) := by decide +kernel
theorem dX8_chord_73 : decode cX8_chord 73 = .ok (.getfield 46, 3) := by decide +kernel
theorem dX8_chord_76 : decode cX8_chord 76 = .ok (.aload_n 0, 1) := by decide +kernel
theorem dX8_chord_77 : decode cX8_chord 77 = .ok (.getfield 26, 3) := by decide +kernel
theorem dX8_chord_80 : decode cX8_chord 80 = .ok (.getfield 106, 3) := by decide +kernel
theorem dX8_chord_83 : decode cX8_chord 83 = .ok (.iload_n 1, 1) := by decide +kernel
theorem dX8_chord_84 : decode cX8_chord 84 = .ok (.iaload, 1) := by decide +kernel
theorem dX8_chord_85 : decode cX8_chord 85 = .ok (.aload_n 0, 1) := by decide +kernel
theorem dX8_chord_86 : decode cX8_chord 86 = .ok (.getfield 26, 3) := by decide +kernel
theorem dX8_chord_89 : decode cX8_chord 89 = .ok (.getfield 110, 3) := by decide +kernel
theorem dX8_chord_92 : decode cX8_chord 92 = .ok (.iload_n 1, 1) := by decide +kernel
theorem dX8_chord_93 : decode cX8_chord 93 = .ok (.iaload, 1) := by decide +kernel
theorem dX8_chord_94 : decode cX8_chord 94 = .ok (.invokevirtual 113, 3) := by decide +kernel
theorem dX8_chord_97 : decode cX8_chord 97 = .ok (.ireturn, 1) := by decide +kernel
theorem dX8_chord_98 : decode cX8_chord 98 = .ok (.aload_n 0, 1) := by decide +kernel
theorem dX8_chord_99 : decode cX8_chord 99 = .ok (.getfield 46, 3) := by decide +kernel
theorem dX8_chord_102 : decode cX8_chord 102 = .ok (.aload_n 0, 1) := by decide +kernel
theorem dX8_chord_103 : decode cX8_chord 103 = .ok (.getfield 26, 3) := by decide +kernel
theorem dX8_chord_106 : decode cX8_chord 106 = .ok (.getfield 106, 3) := by decide +kernel
theorem dX8_chord_109 : decode cX8_chord 109 = .ok (.iload_n 1, 1) := by decide +kernel
theorem dX8_chord_110 : decode cX8_chord 110 = .ok (.iaload, 1) := by decide +kernel
theorem dX8_chord_111 : decode cX8_chord 111 = .ok (.aload_n 0, 1) := by decide +kernel
theorem dX8_chord_112 : decode cX8_chord 112 = .ok (.getfield 26, 3) := by decide +kernel
theorem dX8_chord_115 : decode cX8_chord 115 = .ok (.getfield 110, 3) := by decide +kernel
theorem dX8_chord_118 : decode cX8_chord 118 = .ok (.iload_n 1, 1) := by decide +kernel
theorem dX8_chord_119 : decode cX8_chord 119 = .ok (.iaload, 1) := by decide +kernel
theorem dX8_chord_120 : decode cX8_chord 120 = .ok (.invokevirtual 117, 3) := by decide +kernel
theorem dX8_chord_123 : decode cX8_chord 123 = .ok (.ireturn, 1) := by decide +kernel
theorem dX8_chord_124 : decode cX8_chord 124 = .ok (.aload_n 0, 1) := by decide +kernel
theorem dX8_chord_125 : decode cX8_chord 125 = .ok (.getfield 36, 3) := by decide +kernel
theorem dX8_chord_128 : decode cX8_chord 128 = .ok (.iload_n 1, 1) := by decide +kernel
theorem dX8_chord_129 : decode cX8_chord 129 = .ok (.invokevirtual 120, 3) := by decide +kernel
theorem dX8_chord_132 : decode cX8_chord 132 = .ok (.ireturn, 1) := by decide +kernel
theorem dX8_chord_133 : decode cX8_chord 133 = .ok (.aload_n 0, 1) := by decide +kernel
theorem dX8_chord_134 : decode cX8_chord 134 = .ok (.getfield 36, 3) := by decide +kernel
theorem dX8_chord_137 : decode cX8_chord 137 = .ok (.iload_n 1, 1) := by decide +kernel
theorem dX8_chord_138 : decode cX8_chord 138 = .ok (.invokevirtual 124, 3) := by decide +kernel
theorem dX8_chord_141 : decode cX8_chord 141 = .ok (.ireturn, 1) := by decide +kernel
theorem dX8_chord_142 : decode cX8_chord 142 = .ok (.bipush (-102), 2) := by decide +kernel
theorem dX8_chord_144 : decode cX8_chord 144 = .ok (.ireturn, 1) := by decide +kernel
set_option maxRecDepth 20000 in
theorem ggX8_as_X2_has : GoodIn wsX8_as wsX2_has := goodIn_r _ [6, 7, 26, 27, 28, 29] (by decide +kernel) (by decide +kernel)
set_option maxRecDepth 20000 in
theorem gX8_as_X2_has : GoodIn wsX8_as (wsV RX8 103 RX2 yX2_has wsX2_has) := goodIn_app (goodIn_of _ (by decide +kernel)) ggX8_as_X2_has
set_option maxRecDepth 20000 in
theorem ggX8_as_X8_isKind : GoodIn wsX8_as wsX8_isKind := goodIn_r _ [11] (by decide +kernel) (by decide +kernel)
set_option maxRecDepth 20000 in
theorem gX8_as_X8_isKind : GoodIn wsX8_as (va_wsS RX8 127 yX8_isKind wsX8_isKind) := goodIn_app (goodIn_of _ (by decide +kernel)) ggX8_as_X8_isKind
set_option maxRecDepth 20000 in
theorem ggX8_as_X8_isHeld : GoodIn wsX8_as wsX8_isHeld := goodIn_r _ [14] (by decide +kernel) (by decide +kernel)
set_option maxRecDepth 20000 in
theorem gX8_as_X8_isHeld : GoodIn wsX8_as (va_wsS RX8 130 yX8_isHeld wsX8_isHeld) := goodIn_app (goodIn_of _ (by decide +kernel)) ggX8_as_X8_isHeld
theorem dX8_as_0 : decode cX8_as 0 = .ok (.aload_n 0, 1) := by decide +kernel
theorem dX8_as_1 : decode cX8_as 1 = .ok (.getfield 26, 3) := by decide +kernel
theorem dX8_as_4 : decode cX8_as 4 = .ok (.iload_n 1, 1) := by decide +kernel
theorem dX8_as_5 : decode cX8_as 5 = .ok (.invokevirtual 103, 3) := by decide +kernel
theorem dX8_as_8 : decode cX8_as 8 = .ok (.ifCond .ne 6, 3) := by decide +kernel
theorem dX8_as_11 : decode cX8_as 11 = .ok (.bipush (-101), 2) := by decide +kernel
theorem dX8_as_13 : decode cX8_as 13 = .ok (.ireturn, 1) := by decide +kernel
theorem dX8_as_14 : decode cX8_as 14 = .ok (.iload_n 2, 1) := by decide +kernel
theorem dX8_as_15 : decode cX8_as 15 = .ok (.invokestatic 127, 3) := by decide +kernel
theorem dX8_as_18 : decode cX8_as 18 = .ok (.ifCond .ne 6, 3) := by decide +kernel
theorem dX8_as_21 : decode cX8_as 21 = .ok (.bipush (-102), 2) := by decide +kernel
theorem dX8_as_23 : decode cX8_as 23 = .ok (.ireturn, 1) := by decide +kernel
theorem dX8_as_24 : decode cX8_as 24 = .ok (.aload_n 0, 1) := by decide +kernel
theorem dX8_as_25 : decode cX8_as 25 = .ok (.getfield 26, 3) := by decide +kernel
theorem dX8_as_28 : decode cX8_as 28 = .ok (.getfield 106, 3) := by decide +kernel
theorem dX8_as_31 : decode cX8_as 31 = .ok (.iload_n 1, 1) := by decide +kernel
theorem dX8_as_32 : decode cX8_as 32 = .ok (.iaload, 1) := by decide +kernel
theorem dX8_as_33 : decode cX8_as 33 = .ok (.istore_n 3, 1) := by decide +kernel
theorem dX8_as_34 : decode cX8_as 34 = .ok (.iload_n 2, 1) := by decide +kernel
theorem dX8_as_35 : decode cX8_as 35 = .ok (.ifCond .eq 20, 3) := by decide +kernel
theorem dX8_as_38 : decode cX8_as 38 = .ok (.iload_n 2, 1) := by decide +kernel
theorem dX8_as_39 : decode cX8_as 39 = .ok (.iload_n 3, 1) := by decide +kernel
theorem dX8_as_40 : decode cX8_as 40 = .ok (.if_icmp .eq 15, 3) := by decide +kernel
theorem dX8_as_43 : decode cX8_as 43 = .ok (.iload_n 2, 1) := by decide +kernel
theorem dX8_as_44 : decode cX8_as 44 = .ok (.iconst 2, 1) := by decide +kernel
theorem dX8_as_45 : decode cX8_as 45 = .ok (.if_icmp .ne 14, 3) := by decide +kernel
theorem dX8_as_48 : decode cX8_as 48 = .ok (.iload_n 3, 1) := by decide +kernel
theorem dX8_as_49 : decode cX8_as 49 = .ok (.invokestatic 130, 3) := by decide +kernel
theorem dX8_as_52 : decode cX8_as 52 = .ok (.ifCond .eq 7, 3) := by decide +kernel
theorem dX8_as_55 : decode cX8_as 55 = .ok (.iconst 1, 1) := by decide +kernel
theorem dX8_as_56 : decode cX8_as 56 = .ok (.goto 4, 3) := by decide +kernel
theorem dX8_as_59 : decode cX8_as 59 = .ok (.iconst 0, 1) := by decide +kernel
theorem dX8_as_60 : decode cX8_as 60 = .ok (.istore 4, 2) := by decide +kernel
theorem dX8_as_62 : decode cX8_as 62 = .ok (.iload 4, 2) := by decide +kernel
theorem dX8_as_64 : decode cX8_as 64 = .ok (.ifCond .eq 7, 3) := by decide +kernel
theorem dX8_as_67 : decode cX8_as 67 = .ok (.iload_n 1, 1) := by decide +kernel
theorem dX8_as_68 : decode cX8_as 68 = .ok (.goto 4, 3) := by decide +kernel
theorem dX8_as_71 : decode cX8_as 71 = .ok (.iconst (-1), 1) := by decide +kernel
theorem dX8_as_72 : decode cX8_as 72 = .ok (.ireturn, 1) := by decide +kernel
set_option maxRecDepth 20000 in
theorem ggX8_tone_X8_isPedal : GoodIn wsX8_tone wsX8_isPedal := goodIn_r _ [4] (by decide +kernel) (by decide +kernel)
set_option maxRecDepth 20000 in
theorem gX8_tone_X8_isPedal : GoodIn wsX8_tone (va_wsS RX8 133 yX8_isPedal wsX8_isPedal) := goodIn_app (goodIn_of _ (by decide +kernel)) ggX8_tone_X8_isPedal
set_option maxRecDepth 20000 in
theorem ggX8_tone_X8_isPosition : GoodIn wsX8_tone wsX8_isPosition := goodIn_r _ [7] (by decide +kernel) (by decide +kernel)
set_option maxRecDepth 20000 in
theorem gX8_tone_X8_isPosition : GoodIn wsX8_tone (va_wsS RX8 136 yX8_isPosition wsX8_isPosition) := goodIn_app (goodIn_of _ (by decide +kernel)) ggX8_tone_X8_isPosition
set_option maxRecDepth 20000 in
theorem ggX8_tone_X7_toneAt : GoodIn wsX8_tone wsX7_toneAt := goodIn_r _ [11, 12] (by decide +kernel) (by decide +kernel)
set_option maxRecDepth 20000 in
theorem gX8_tone_X7_toneAt : GoodIn wsX8_tone (va_wsS RX8 139 yX7_toneAt wsX7_toneAt) := goodIn_app (goodIn_of _ (by decide +kernel)) ggX8_tone_X7_toneAt
theorem dX8_tone_0 : decode cX8_tone 0 = .ok (.iload_n 1, 1) := by decide +kernel
theorem dX8_tone_1 : decode cX8_tone 1 = .ok (.invokestatic 133, 3) := by decide +kernel
theorem dX8_tone_4 : decode cX8_tone 4 = .ok (.ifCond .ne 6, 3) := by decide +kernel
theorem dX8_tone_7 : decode cX8_tone 7 = .ok (.bipush (-101), 2) := by decide +kernel
theorem dX8_tone_9 : decode cX8_tone 9 = .ok (.ireturn, 1) := by decide +kernel
theorem dX8_tone_10 : decode cX8_tone 10 = .ok (.iload_n 2, 1) := by decide +kernel
theorem dX8_tone_11 : decode cX8_tone 11 = .ok (.invokestatic 136, 3) := by decide +kernel
theorem dX8_tone_14 : decode cX8_tone 14 = .ok (.ifCond .eq 11, 3) := by decide +kernel
theorem dX8_tone_17 : decode cX8_tone 17 = .ok (.iload_n 1, 1) := by decide +kernel
theorem dX8_tone_18 : decode cX8_tone 18 = .ok (.iload_n 2, 1) := by decide +kernel
theorem dX8_tone_19 : decode cX8_tone 19 = .ok (.invokestatic 139, 3) := by decide +kernel
theorem dX8_tone_22 : decode cX8_tone 22 = .ok (.goto 5, 3) := by decide +kernel
theorem dX8_tone_25 : decode cX8_tone 25 = .ok (.bipush (-102), 2) := by decide +kernel
theorem dX8_tone_27 : decode cX8_tone 27 = .ok (.ireturn, 1) := by decide +kernel
set_option maxRecDepth 20000 in
theorem ggX8_press_X8_isPedal : GoodIn wsX8_press wsX8_isPedal := goodIn_r _ [6] (by decide +kernel) (by decide +kernel)
set_option maxRecDepth 20000 in
theorem gX8_press_X8_isPedal : GoodIn wsX8_press (va_wsS RX8 133 yX8_isPedal wsX8_isPedal) := goodIn_app (goodIn_of _ (by decide +kernel)) ggX8_press_X8_isPedal
set_option maxRecDepth 20000 in
theorem ggX8_press_X8_isPosition : GoodIn wsX8_press wsX8_isPosition := goodIn_r _ [9] (by decide +kernel) (by decide +kernel)
set_option maxRecDepth 20000 in
theorem gX8_press_X8_isPosition : GoodIn wsX8_press (va_wsS RX8 136 yX8_isPosition wsX8_isPosition) := goodIn_app (goodIn_of _ (by decide +kernel)) ggX8_press_X8_isPosition
set_option maxRecDepth 20000 in
theorem ggX8_press_X7_moved : GoodIn wsX8_press wsX7_moved := goodIn_r _ [13, 14, 15, 16, 12, 17] (by decide +kernel) (by decide +kernel)
set_option maxRecDepth 20000 in
theorem gX8_press_X7_moved : GoodIn wsX8_press (va_wsS RX8 145 yX7_moved wsX7_moved) := goodIn_app (goodIn_of _ (by decide +kernel)) ggX8_press_X7_moved
set_option maxRecDepth 20000 in
theorem ggX8_press_X3_makeStale : GoodIn wsX8_press wsX3_makeStale := goodIn_r _ [22, 23, 24, 43, 44, 45, 46, 47, 48, 49, 50, 51, 52, 53, 54] (by decide +kernel) (by decide +kernel)
set_option maxRecDepth 20000 in
theorem gX8_press_X3_makeStale : GoodIn wsX8_press (wsV RX8 93 RX3 yX3_makeStale wsX3_makeStale) := goodIn_app (goodIn_of _ (by decide +kernel)) ggX8_press_X3_makeStale
set_option maxRecDepth 20000 in
theorem ggX8_press_X7_numberOf : GoodIn wsX8_press wsX7_numberOf := goodIn_r _ [27, 15, 16, 12, 17] (by decide +kernel) (by decide +kernel)
set_option maxRecDepth 20000 in
theorem gX8_press_X7_numberOf : GoodIn wsX8_press (va_wsS RX8 149 yX7_numberOf wsX7_numberOf) := goodIn_app (goodIn_of _ (by decide +kernel)) ggX8_press_X7_numberOf
theorem dX8_press_0 : decode cX8_press 0 = .ok (.iload_n 1, 1) := by decide +kernel
theorem dX8_press_1 : decode cX8_press 1 = .ok (.invokestatic 133, 3) := by decide +kernel
theorem dX8_press_4 : decode cX8_press 4 = .ok (.ifCond .ne 6, 3) := by decide +kernel
theorem dX8_press_7 : decode cX8_press 7 = .ok (.bipush (-101), 2) := by decide +kernel
theorem dX8_press_9 : decode cX8_press 9 = .ok (.ireturn, 1) := by decide +kernel
theorem dX8_press_10 : decode cX8_press 10 = .ok (.iload_n 2, 1) := by decide +kernel
theorem dX8_press_11 : decode cX8_press 11 = .ok (.invokestatic 136, 3) := by decide +kernel
theorem dX8_press_14 : decode cX8_press 14 = .ok (.ifCond .ne 6, 3) := by decide +kernel
theorem dX8_press_17 : decode cX8_press 17 = .ok (.bipush (-102), 2) := by decide +kernel
theorem dX8_press_19 : decode cX8_press 19 = .ok (.ireturn, 1) := by decide +kernel
theorem dX8_press_20 : decode cX8_press 20 = .ok (.aload_n 0, 1) := by decide +kernel
theorem dX8_press_21 : decode cX8_press 21 = .ok (.getfield 26, 3) := by decide +kernel
theorem dX8_press_24 : decode cX8_press 24 = .ok (.getfield 102, 3) := by decide +kernel
theorem dX8_press_27 : decode cX8_press 27 = .ok (.ifCond .ne 6, 3) := by decide +kernel
theorem dX8_press_30 : decode cX8_press 30 = .ok (.bipush (-103), 2) := by decide +kernel
theorem dX8_press_32 : decode cX8_press 32 = .ok (.ireturn, 1) := by decide +kernel
theorem dX8_press_33 : decode cX8_press 33 = .ok (.aload_n 0, 1) := by decide +kernel
theorem dX8_press_34 : decode cX8_press 34 = .ok (.getfield 26, 3) := by decide +kernel
theorem dX8_press_37 : decode cX8_press 37 = .ok (.aload_n 0, 1) := by decide +kernel
theorem dX8_press_38 : decode cX8_press 38 = .ok (.getfield 26, 3) := by decide +kernel
theorem dX8_press_41 : decode cX8_press 41 = .ok (.getfield 142, 3) := by decide +kernel
theorem dX8_press_44 : decode cX8_press 44 = .ok (.iload_n 1, 1) := by decide +kernel
theorem dX8_press_45 : decode cX8_press 45 = .ok (.iload_n 2, 1) := by decide +kernel
theorem dX8_press_46 : decode cX8_press 46 = .ok (.invokestatic 145, 3) := by decide +kernel
theorem dX8_press_49 : decode cX8_press 49 = .ok (.putfield 142, 3) := by decide +kernel
theorem dX8_press_52 : decode cX8_press 52 = .ok (.aload_n 0, 1) := by decide +kernel
theorem dX8_press_53 : decode cX8_press 53 = .ok (.getfield 55, 3) := by decide +kernel
theorem dX8_press_56 : decode cX8_press 56 = .ok (.invokevirtual 93, 3) := by decide +kernel
theorem dX8_press_59 : decode cX8_press 59 = .ok (.aload_n 0, 1) := by decide +kernel
theorem dX8_press_60 : decode cX8_press 60 = .ok (.getfield 26, 3) := by decide +kernel
theorem dX8_press_63 : decode cX8_press 63 = .ok (.getfield 142, 3) := by decide +kernel
theorem dX8_press_66 : decode cX8_press 66 = .ok (.invokestatic 149, 3) := by decide +kernel
theorem dX8_press_69 : decode cX8_press 69 = .ok (.ireturn, 1) := by decide +kernel
set_option maxRecDepth 20000 in
theorem ggX8_put_X8_isKind : GoodIn wsX8_put wsX8_isKind := goodIn_r _ [6] (by decide +kernel) (by decide +kernel)
set_option maxRecDepth 20000 in
theorem gX8_put_X8_isKind : GoodIn wsX8_put (va_wsS RX8 127 yX8_isKind wsX8_isKind) := goodIn_app (goodIn_of _ (by decide +kernel)) ggX8_put_X8_isKind
set_option maxRecDepth 20000 in
theorem ggX8_put_X8_areTones : GoodIn wsX8_put wsX8_areTones := goodIn_r _ [9, 10, 11, 12, 13, 14, 15, 16] (by decide +kernel) (by decide +kernel)
set_option maxRecDepth 20000 in
theorem gX8_put_X8_areTones : GoodIn wsX8_put (va_wsS RX8 152 yX8_areTones wsX8_areTones) := goodIn_app (goodIn_of _ (by decide +kernel)) ggX8_put_X8_areTones
set_option maxRecDepth 20000 in
theorem ggX8_put_X2_insert : GoodIn wsX8_put wsX2_insert := goodIn_r _ [21, 22, 23, 24, 43, 44, 45, 46] (by decide +kernel) (by decide +kernel)
set_option maxRecDepth 20000 in
theorem gX8_put_X2_insert : GoodIn wsX8_put (wsV RX8 155 RX2 yX2_insert wsX2_insert) := goodIn_app (goodIn_of _ (by decide +kernel)) ggX8_put_X2_insert
set_option maxRecDepth 20000 in
theorem ggX8_put_X3_makeStale : GoodIn wsX8_put wsX3_makeStale := goodIn_r _ [29, 30, 31, 47, 48, 49, 50, 51, 52, 53, 54, 55, 56, 57, 58] (by decide +kernel) (by decide +kernel)
set_option maxRecDepth 20000 in
theorem gX8_put_X3_makeStale : GoodIn wsX8_put (wsV RX8 93 RX3 yX3_makeStale wsX3_makeStale) := goodIn_app (goodIn_of _ (by decide +kernel)) ggX8_put_X3_makeStale
theorem dX8_put_0 : decode cX8_put 0 = .ok (.iload_n 1, 1) := by decide +kernel
theorem dX8_put_1 : decode cX8_put 1 = .ok (.ifCond .lt 14, 3) := by decide +kernel
theorem dX8_put_4 : decode cX8_put 4 = .ok (.iload_n 1, 1) := by decide +kernel
theorem dX8_put_5 : decode cX8_put 5 = .ok (.aload_n 0, 1) := by decide +kernel
theorem dX8_put_6 : decode cX8_put 6 = .ok (.getfield 26, 3) := by decide +kernel
theorem dX8_put_9 : decode cX8_put 9 = .ok (.getfield 102, 3) := by decide +kernel
theorem dX8_put_12 : decode cX8_put 12 = .ok (.if_icmp .le 6, 3) := by decide +kernel
theorem dX8_put_15 : decode cX8_put 15 = .ok (.bipush (-101), 2) := by decide +kernel
theorem dX8_put_17 : decode cX8_put 17 = .ok (.ireturn, 1) := by decide +kernel
theorem dX8_put_18 : decode cX8_put 18 = .ok (.iload_n 2, 1) := by decide +kernel
theorem dX8_put_19 : decode cX8_put 19 = .ok (.invokestatic 127, 3) := by decide +kernel
theorem dX8_put_22 : decode cX8_put 22 = .ok (.ifCond .eq 10, 3) := by decide +kernel
theorem dX8_put_25 : decode cX8_put 25 = .ok (.iload_n 3, 1) := by decide +kernel
theorem dX8_put_26 : decode cX8_put 26 = .ok (.invokestatic 152, 3) := by decide +kernel
theorem dX8_put_29 : decode cX8_put 29 = .ok (.ifCond .ne 6, 3) := by decide +kernel
theorem dX8_put_32 : decode cX8_put 32 = .ok (.bipush (-102), 2) := by decide +kernel
theorem dX8_put_34 : decode cX8_put 34 = .ok (.ireturn, 1) := by decide +kernel
theorem dX8_put_35 : decode cX8_put 35 = .ok (.aload_n 0, 1) := by decide +kernel
theorem dX8_put_36 : decode cX8_put 36 = .ok (.getfield 26, 3) := by decide +kernel
theorem dX8_put_39 : decode cX8_put 39 = .ok (.getfield 102, 3) := by decide +kernel
theorem dX8_put_42 : decode cX8_put 42 = .ok (.ifCond .ne 6, 3) := by decide +kernel
theorem dX8_put_45 : decode cX8_put 45 = .ok (.bipush (-103), 2) := by decide +kernel
theorem dX8_put_47 : decode cX8_put 47 = .ok (.ireturn, 1) := by decide +kernel
theorem dX8_put_48 : decode cX8_put 48 = .ok (.aload_n 0, 1) := by decide +kernel
theorem dX8_put_49 : decode cX8_put 49 = .ok (.getfield 26, 3) := by decide +kernel
theorem dX8_put_52 : decode cX8_put 52 = .ok (.iload_n 1, 1) := by decide +kernel
theorem dX8_put_53 : decode cX8_put 53 = .ok (.iload_n 2, 1) := by decide +kernel
theorem dX8_put_54 : decode cX8_put 54 = .ok (.iload_n 3, 1) := by decide +kernel
theorem dX8_put_55 : decode cX8_put 55 = .ok (.invokevirtual 155, 3) := by decide +kernel
theorem dX8_put_58 : decode cX8_put 58 = .ok (.ifCond .ne 6, 3) := by decide +kernel
theorem dX8_put_61 : decode cX8_put 61 = .ok (.bipush (-104), 2) := by decide +kernel
theorem dX8_put_63 : decode cX8_put 63 = .ok (.ireturn, 1) := by decide +kernel
theorem dX8_put_64 : decode cX8_put 64 = .ok (.aload_n 0, 1) := by decide +kernel
theorem dX8_put_65 : decode cX8_put 65 = .ok (.getfield 55, 3) := by decide +kernel
theorem dX8_put_68 : decode cX8_put 68 = .ok (.invokevirtual 93, 3) := by decide +kernel
theorem dX8_put_71 : decode cX8_put 71 = .ok (.aload_n 0, 1) := by decide +kernel
theorem dX8_put_72 : decode cX8_put 72 = .ok (.getfield 26, 3) := by decide +kernel
theorem dX8_put_75 : decode cX8_put 75 = .ok (.getfield 102, 3) := by decide +kernel
theorem dX8_put_78 : decode cX8_put 78 = .ok (.ireturn, 1) := by decide +kernel
set_option maxRecDepth 20000 in
theorem ggX8_take_X2_has : GoodIn wsX8_take wsX2_has := goodIn_r _ [7, 8, 34, 35, 36, 37] (by decide +kernel) (by decide +kernel)
set_option maxRecDepth 20000 in
theorem gX8_take_X2_has : GoodIn wsX8_take (wsV RX8 103 RX2 yX2_has wsX2_has) := goodIn_app (goodIn_of _ (by decide +kernel)) ggX8_take_X2_has
set_option maxRecDepth 20000 in
theorem ggX8_take_X2_remove : GoodIn wsX8_take wsX2_remove := goodIn_r _ [12, 8, 13, 14, 15, 4, 5, 6, 7, 34, 35, 36, 37] (by decide +kernel) (by decide +kernel)
set_option maxRecDepth 20000 in
theorem gX8_take_X2_remove : GoodIn wsX8_take (wsV RX8 159 RX2 yX2_remove wsX2_remove) := goodIn_app (goodIn_of _ (by decide +kernel)) ggX8_take_X2_remove
set_option maxRecDepth 20000 in
theorem ggX8_take_X3_makeStale : GoodIn wsX8_take wsX3_makeStale := goodIn_r _ [20, 21, 22, 38, 39, 40, 41, 42, 43, 44, 45, 46, 47, 48, 49] (by decide +kernel) (by decide +kernel)
set_option maxRecDepth 20000 in
theorem gX8_take_X3_makeStale : GoodIn wsX8_take (wsV RX8 93 RX3 yX3_makeStale wsX3_makeStale) := goodIn_app (goodIn_of _ (by decide +kernel)) ggX8_take_X3_makeStale
theorem dX8_take_0 : decode cX8_take 0 = .ok (.aload_n 0, 1) := by decide +kernel
theorem dX8_take_1 : decode cX8_take 1 = .ok (.getfield 26, 3) := by decide +kernel
theorem dX8_take_4 : decode cX8_take 4 = .ok (.iload_n 1, 1) := by decide +kernel
theorem dX8_take_5 : decode cX8_take 5 = .ok (.invokevirtual 103, 3) := by decide +kernel
theorem dX8_take_8 : decode cX8_take 8 = .ok (.ifCond .ne 6, 3) := by decide +kernel
theorem dX8_take_11 : decode cX8_take 11 = .ok (.bipush (-101), 2) := by decide +kernel
theorem dX8_take_13 : decode cX8_take 13 = .ok (.ireturn, 1) := by decide +kernel
theorem dX8_take_14 : decode cX8_take 14 = .ok (.aload_n 0, 1) := by decide +kernel
theorem dX8_take_15 : decode cX8_take 15 = .ok (.getfield 26, 3) := by decide +kernel
theorem dX8_take_18 : decode cX8_take 18 = .ok (.getfield 102, 3) := by decide +kernel
theorem dX8_take_21 : decode cX8_take 21 = .ok (.iconst 1, 1) := by decide +kernel
theorem dX8_take_22 : decode cX8_take 22 = .ok (.if_icmp .ne 6, 3) := by decide +kernel
theorem dX8_take_25 : decode cX8_take 25 = .ok (.bipush (-103), 2) := by decide +kernel
theorem dX8_take_27 : decode cX8_take 27 = .ok (.ireturn, 1) := by decide +kernel
theorem dX8_take_28 : decode cX8_take 28 = .ok (.aload_n 0, 1) := by decide +kernel
theorem dX8_take_29 : decode cX8_take 29 = .ok (.getfield 26, 3) := by decide +kernel
theorem dX8_take_32 : decode cX8_take 32 = .ok (.iload_n 1, 1) := by decide +kernel
theorem dX8_take_33 : decode cX8_take 33 = .ok (.invokevirtual 159, 3) := by decide +kernel
theorem dX8_take_36 : decode cX8_take 36 = .ok (.aload_n 0, 1) := by decide +kernel
theorem dX8_take_37 : decode cX8_take 37 = .ok (.getfield 55, 3) := by decide +kernel
theorem dX8_take_40 : decode cX8_take 40 = .ok (.invokevirtual 93, 3) := by decide +kernel
theorem dX8_take_43 : decode cX8_take 43 = .ok (.aload_n 0, 1) := by decide +kernel
theorem dX8_take_44 : decode cX8_take 44 = .ok (.getfield 26, 3) := by decide +kernel
theorem dX8_take_47 : decode cX8_take 47 = .ok (.getfield 102, 3) := by decide +kernel
theorem dX8_take_50 : decode cX8_take 50 = .ok (.ireturn, 1) := by decide +kernel
set_option maxRecDepth 20000 in
theorem ggX8_swap_X2_has : GoodIn wsX8_swap wsX2_has := goodIn_r _ [7, 8, 119, 120, 121, 122] (by decide +kernel) (by decide +kernel)
set_option maxRecDepth 20000 in
theorem gX8_swap_X2_has : GoodIn wsX8_swap (wsV RX8 103 RX2 yX2_has wsX2_has) := goodIn_app (goodIn_of _ (by decide +kernel)) ggX8_swap_X2_has
set_option maxRecDepth 20000 in
theorem ggX8_swap_X2_exchange : GoodIn wsX8_swap wsX2_exchange := goodIn_r _ [12, 13, 14, 15, 4, 5, 6, 7, 8, 119, 120, 121, 122] (by decide +kernel) (by decide +kernel)
set_option maxRecDepth 20000 in
theorem gX8_swap_X2_exchange : GoodIn wsX8_swap (wsV RX8 163 RX2 yX2_exchange wsX2_exchange) := goodIn_app (goodIn_of _ (by decide +kernel)) ggX8_swap_X2_exchange
set_option maxRecDepth 20000 in
theorem ggX8_swap_X3_makeStale : GoodIn wsX8_swap wsX3_makeStale := goodIn_r _ [20, 21, 22, 123, 124, 125, 126, 127, 128, 129, 130, 131, 132, 133, 134] (by decide +kernel) (by decide +kernel)
set_option maxRecDepth 20000 in
theorem gX8_swap_X3_makeStale : GoodIn wsX8_swap (wsV RX8 93 RX3 yX3_makeStale wsX3_makeStale) := goodIn_app (goodIn_of _ (by decide +kernel)) ggX8_swap_X3_makeStale
set_option maxRecDepth 20000 in
theorem ggX8_swap_X3_fewest : GoodIn wsX8_swap wsX3_fewest := goodIn_r _ [26, 27, 28, 29, 30, 31, 19, 32, 21, 33, 34, 35, 36, 37, 38, 39, 40, 41, 42, 43, 44, 45, 46, 47, 48, 49, 50, 51, 52, 53, 54, 55, 56, 57, 58, 59, 60, 61, 62, 63, 64, 65, 66, 67, 68, 69, 70, 71, 72, 73, 74, 75, 76, 77, 78, 79, 80, 81, 82, 83, 84, 85, 86, 87, 88, 89, 90, 91, 92, 93, 94, 95, 96, 97, 98, 99, 100, 101, 102, 103, 104, 105, 106, 107, 123, 124, 125, 126, 127, 128, 129, 130, 131, 132, 133, 134, 119, 120, 121, 122, 135, 136, 137] (by decide +kernel) (by decide +kernel)
set_option maxRecDepth 20000 in
theorem gX8_swap_X3_fewest : GoodIn wsX8_swap (wsV RX8 167 RX3 yX3_fewest wsX3_fewest) := goodIn_app (goodIn_of _ (by decide +kernel)) ggX8_swap_X3_fewest
theorem dX8_swap_0 : decode cX8_swap 0 = .ok (.aload_n 0, 1) := by decide +kernel
theorem dX8_swap_1 : decode cX8_swap 1 = .ok (.getfield 26, 3) := by decide +kernel
theorem dX8_swap_4 : decode cX8_swap 4 = .ok (.iload_n 1, 1) := by decide +kernel
theorem dX8_swap_5 : decode cX8_swap 5 = .ok (.invokevirtual 103, 3) := by decide +kernel
theorem dX8_swap_8 : decode cX8_swap 8 = .ok (.ifCond .eq 19, 3) := by decide +kernel
theorem dX8_swap_11 : decode cX8_swap 11 = .ok (.aload_n 0, 1) := by decide +kernel
theorem dX8_swap_12 : decode cX8_swap 12 = .ok (.getfield 26, 3) := by decide +kernel
theorem dX8_swap_15 : decode cX8_swap 15 = .ok (.iload_n 2, 1) := by decide +kernel
theorem dX8_swap_16 : decode cX8_swap 16 = .ok (.invokevirtual 103, 3) := by decide +kernel
theorem dX8_swap_19 : decode cX8_swap 19 = .ok (.ifCond .eq 8, 3) := by decide +kernel
theorem dX8_swap_22 : decode cX8_swap 22 = .ok (.iload_n 1, 1) := by decide +kernel
theorem dX8_swap_23 : decode cX8_swap 23 = .ok (.iload_n 2, 1) := by decide +kernel
theorem dX8_swap_24 : decode cX8_swap 24 = .ok (.if_icmp .ne 6, 3) := by decide +kernel
theorem dX8_swap_27 : decode cX8_swap 27 = .ok (.bipush (-101), 2) := by decide +kernel
theorem dX8_swap_29 : decode cX8_swap 29 = .ok (.ireturn, 1) := by decide +kernel
theorem dX8_swap_30 : decode cX8_swap 30 = .ok (.aload_n 0, 1) := by decide +kernel
theorem dX8_swap_31 : decode cX8_swap 31 = .ok (.getfield 26, 3) := by decide +kernel
theorem dX8_swap_34 : decode cX8_swap 34 = .ok (.iload_n 1, 1) := by decide +kernel
theorem dX8_swap_35 : decode cX8_swap 35 = .ok (.iload_n 2, 1) := by decide +kernel
theorem dX8_swap_36 : decode cX8_swap 36 = .ok (.invokevirtual 163, 3) := by decide +kernel
theorem dX8_swap_39 : decode cX8_swap 39 = .ok (.aload_n 0, 1) := by decide +kernel
theorem dX8_swap_40 : decode cX8_swap 40 = .ok (.getfield 55, 3) := by decide +kernel
theorem dX8_swap_43 : decode cX8_swap 43 = .ok (.invokevirtual 93, 3) := by decide +kernel
theorem dX8_swap_46 : decode cX8_swap 46 = .ok (.aload_n 0, 1) := by decide +kernel
theorem dX8_swap_47 : decode cX8_swap 47 = .ok (.getfield 55, 3) := by decide +kernel
theorem dX8_swap_50 : decode cX8_swap 50 = .ok (.aload_n 0, 1) := by decide +kernel
theorem dX8_swap_51 : decode cX8_swap 51 = .ok (.getfield 26, 3) := by decide +kernel
theorem dX8_swap_54 : decode cX8_swap 54 = .ok (.iconst 0, 1) := by decide +kernel
theorem dX8_swap_55 : decode cX8_swap 55 = .ok (.invokevirtual 167, 3) := by decide +kernel
theorem dX8_swap_58 : decode cX8_swap 58 = .ok (.ireturn, 1) := by decide +kernel
set_option maxRecDepth 20000 in
theorem ggX8_change_X2_has : GoodIn wsX8_change wsX2_has := goodIn_r _ [7, 8, 31, 32, 33, 34] (by decide +kernel) (by decide +kernel)
set_option maxRecDepth 20000 in
theorem gX8_change_X2_has : GoodIn wsX8_change (wsV RX8 103 RX2 yX2_has wsX2_has) := goodIn_app (goodIn_of _ (by decide +kernel)) ggX8_change_X2_has
set_option maxRecDepth 20000 in
theorem ggX8_change_X8_isKind : GoodIn wsX8_change wsX8_isKind := goodIn_r _ [12] (by decide +kernel) (by decide +kernel)
set_option maxRecDepth 20000 in
theorem gX8_change_X8_isKind : GoodIn wsX8_change (va_wsS RX8 127 yX8_isKind wsX8_isKind) := goodIn_app (goodIn_of _ (by decide +kernel)) ggX8_change_X8_isKind
set_option maxRecDepth 20000 in
theorem ggX8_change_X3_makeStale : GoodIn wsX8_change wsX3_makeStale := goodIn_r _ [17, 18, 19, 35, 36, 37, 38, 39, 40, 41, 42, 43, 44, 45, 46] (by decide +kernel) (by decide +kernel)
set_option maxRecDepth 20000 in
theorem gX8_change_X3_makeStale : GoodIn wsX8_change (wsV RX8 93 RX3 yX3_makeStale wsX3_makeStale) := goodIn_app (goodIn_of _ (by decide +kernel)) ggX8_change_X3_makeStale
theorem dX8_change_0 : decode cX8_change 0 = .ok (.aload_n 0, 1) := by decide +kernel
theorem dX8_change_1 : decode cX8_change 1 = .ok (.getfield 26, 3) := by decide +kernel
theorem dX8_change_4 : decode cX8_change 4 = .ok (.iload_n 1, 1) := by decide +kernel
theorem dX8_change_5 : decode cX8_change 5 = .ok (.invokevirtual 103, 3) := by decide +kernel
theorem dX8_change_8 : decode cX8_change 8 = .ok (.ifCond .ne 6, 3) := by decide +kernel
theorem dX8_change_11 : decode cX8_change 11 = .ok (.bipush (-101), 2) := by decide +kernel
theorem dX8_change_13 : decode cX8_change 13 = .ok (.ireturn, 1) := by decide +kernel
theorem dX8_change_14 : decode cX8_change 14 = .ok (.iload_n 2, 1) := by decide +kernel
theorem dX8_change_15 : decode cX8_change 15 = .ok (.invokestatic 127, 3) := by decide +kernel
theorem dX8_change_18 : decode cX8_change 18 = .ok (.ifCond .ne 6, 3) := by decide +kernel
theorem dX8_change_21 : decode cX8_change 21 = .ok (.bipush (-102), 2) := by decide +kernel
theorem dX8_change_23 : decode cX8_change 23 = .ok (.ireturn, 1) := by decide +kernel
theorem dX8_change_24 : decode cX8_change 24 = .ok (.aload_n 0, 1) := by decide +kernel
theorem dX8_change_25 : decode cX8_change 25 = .ok (.getfield 26, 3) := by decide +kernel
theorem dX8_change_28 : decode cX8_change 28 = .ok (.getfield 106, 3) := by decide +kernel
theorem dX8_change_31 : decode cX8_change 31 = .ok (.iload_n 1, 1) := by decide +kernel
theorem dX8_change_32 : decode cX8_change 32 = .ok (.iaload, 1) := by decide +kernel
theorem dX8_change_33 : decode cX8_change 33 = .ok (.istore_n 3, 1) := by decide +kernel
theorem dX8_change_34 : decode cX8_change 34 = .ok (.aload_n 0, 1) := by decide +kernel
theorem dX8_change_35 : decode cX8_change 35 = .ok (.getfield 26, 3) := by decide +kernel
theorem dX8_change_38 : decode cX8_change 38 = .ok (.getfield 106, 3) := by decide +kernel
theorem dX8_change_41 : decode cX8_change 41 = .ok (.iload_n 1, 1) := by decide +kernel
theorem dX8_change_42 : decode cX8_change 42 = .ok (.iload_n 2, 1) := by decide +kernel
theorem dX8_change_43 : decode cX8_change 43 = .ok (.iastore, 1) := by decide +kernel
theorem dX8_change_44 : decode cX8_change 44 = .ok (.aload_n 0, 1) := by decide +kernel
theorem dX8_change_45 : decode cX8_change 45 = .ok (.getfield 55, 3) := by decide +kernel
theorem dX8_change_48 : decode cX8_change 48 = .ok (.invokevirtual 93, 3) := by decide +kernel
theorem dX8_change_51 : decode cX8_change 51 = .ok (.iload_n 3, 1) := by decide +kernel
theorem dX8_change_52 : decode cX8_change 52 = .ok (.ireturn, 1) := by decide +kernel
set_option maxRecDepth 20000 in
theorem ggX8_shift_X8_isShift : GoodIn wsX8_shift wsX8_isShift := goodIn_r _ [6] (by decide +kernel) (by decide +kernel)
set_option maxRecDepth 20000 in
theorem gX8_shift_X8_isShift : GoodIn wsX8_shift (va_wsS RX8 171 yX8_isShift wsX8_isShift) := goodIn_app (goodIn_of _ (by decide +kernel)) ggX8_shift_X8_isShift
set_option maxRecDepth 20000 in
theorem ggX8_shift_X2_raise : GoodIn wsX8_shift wsX2_raise := goodIn_r _ [11, 12, 13, 14, 5, 15, 116, 117, 118, 119] (by decide +kernel) (by decide +kernel)
set_option maxRecDepth 20000 in
theorem gX8_shift_X2_raise : GoodIn wsX8_shift (wsV RX8 174 RX2 yX2_raise wsX2_raise) := goodIn_app (goodIn_of _ (by decide +kernel)) ggX8_shift_X2_raise
set_option maxRecDepth 20000 in
theorem ggX8_shift_X3_makeStale : GoodIn wsX8_shift wsX3_makeStale := goodIn_r _ [20, 21, 22, 120, 121, 122, 123, 124, 125, 126, 127, 128, 129, 130, 131] (by decide +kernel) (by decide +kernel)
set_option maxRecDepth 20000 in
theorem gX8_shift_X3_makeStale : GoodIn wsX8_shift (wsV RX8 93 RX3 yX3_makeStale wsX3_makeStale) := goodIn_app (goodIn_of _ (by decide +kernel)) ggX8_shift_X3_makeStale
set_option maxRecDepth 20000 in
theorem ggX8_shift_X3_fewest : GoodIn wsX8_shift wsX3_fewest := goodIn_r _ [26, 27, 28, 29, 30, 31, 19, 32, 21, 33, 34, 35, 36, 37, 38, 39, 40, 41, 42, 43, 44, 45, 46, 47, 48, 49, 5, 50, 14, 15, 51, 52, 53, 54, 55, 56, 57, 58, 59, 60, 61, 62, 63, 64, 65, 66, 67, 68, 69, 70, 71, 72, 73, 74, 75, 76, 77, 78, 79, 80, 81, 82, 83, 84, 85, 86, 87, 88, 89, 90, 91, 92, 93, 94, 95, 96, 97, 98, 99, 100, 101, 102, 103, 104, 120, 121, 122, 123, 124, 125, 126, 127, 128, 129, 130, 131, 116, 117, 118, 119, 132, 133, 134] (by decide +kernel) (by decide +kernel)
set_option maxRecDepth 20000 in
theorem gX8_shift_X3_fewest : GoodIn wsX8_shift (wsV RX8 167 RX3 yX3_fewest wsX3_fewest) := goodIn_app (goodIn_of _ (by decide +kernel)) ggX8_shift_X3_fewest
theorem dX8_shift_0 : decode cX8_shift 0 = .ok (.iload_n 1, 1) := by decide +kernel
theorem dX8_shift_1 : decode cX8_shift 1 = .ok (.invokestatic 171, 3) := by decide +kernel
theorem dX8_shift_4 : decode cX8_shift 4 = .ok (.ifCond .ne 6, 3) := by decide +kernel
theorem dX8_shift_7 : decode cX8_shift 7 = .ok (.bipush (-102), 2) := by decide +kernel
theorem dX8_shift_9 : decode cX8_shift 9 = .ok (.ireturn, 1) := by decide +kernel
theorem dX8_shift_10 : decode cX8_shift 10 = .ok (.aload_n 0, 1) := by decide +kernel
theorem dX8_shift_11 : decode cX8_shift 11 = .ok (.getfield 26, 3) := by decide +kernel
theorem dX8_shift_14 : decode cX8_shift 14 = .ok (.getfield 102, 3) := by decide +kernel
theorem dX8_shift_17 : decode cX8_shift 17 = .ok (.ifCond .ne 6, 3) := by decide +kernel
theorem dX8_shift_20 : decode cX8_shift 20 = .ok (.bipush (-103), 2) := by decide +kernel
theorem dX8_shift_22 : decode cX8_shift 22 = .ok (.ireturn, 1) := by decide +kernel
theorem dX8_shift_23 : decode cX8_shift 23 = .ok (.aload_n 0, 1) := by decide +kernel
theorem dX8_shift_24 : decode cX8_shift 24 = .ok (.getfield 26, 3) := by decide +kernel
theorem dX8_shift_27 : decode cX8_shift 27 = .ok (.iload_n 1, 1) := by decide +kernel
theorem dX8_shift_28 : decode cX8_shift 28 = .ok (.invokevirtual 174, 3) := by decide +kernel
theorem dX8_shift_31 : decode cX8_shift 31 = .ok (.aload_n 0, 1) := by decide +kernel
theorem dX8_shift_32 : decode cX8_shift 32 = .ok (.getfield 55, 3) := by decide +kernel
theorem dX8_shift_35 : decode cX8_shift 35 = .ok (.invokevirtual 93, 3) := by decide +kernel
theorem dX8_shift_38 : decode cX8_shift 38 = .ok (.aload_n 0, 1) := by decide +kernel
theorem dX8_shift_39 : decode cX8_shift 39 = .ok (.getfield 55, 3) := by decide +kernel
theorem dX8_shift_42 : decode cX8_shift 42 = .ok (.aload_n 0, 1) := by decide +kernel
theorem dX8_shift_43 : decode cX8_shift 43 = .ok (.getfield 26, 3) := by decide +kernel
theorem dX8_shift_46 : decode cX8_shift 46 = .ok (.iconst 0, 1) := by decide +kernel
theorem dX8_shift_47 : decode cX8_shift 47 = .ok (.invokevirtual 167, 3) := by decide +kernel
theorem dX8_shift_50 : decode cX8_shift 50 = .ok (.ireturn, 1) := by decide +kernel
set_option maxRecDepth 20000 in
theorem ggX8_plan_X3_fewest : GoodIn wsX8_plan wsX3_fewest := goodIn_r _ [7, 8, 9, 10, 11, 12, 6, 13, 14, 15, 16, 17, 18, 19, 20, 21, 22, 23, 24, 25, 26, 27, 28, 29, 30, 31, 32, 33, 34, 35, 36, 37, 38, 39, 40, 41, 42, 43, 44, 45, 46, 47, 48, 49, 50, 51, 52, 53, 54, 55, 56, 57, 58, 59, 60, 61, 62, 63, 64, 65, 66, 67, 68, 69, 70, 71, 72, 73, 74, 75, 76, 77, 78, 79, 80, 81, 82, 83, 84, 85, 86, 87, 88, 89, 113, 114, 115, 116, 117, 118, 119, 120, 121, 122, 123, 124, 109, 110, 111, 112, 125, 126, 127] (by decide +kernel) (by decide +kernel)
set_option maxRecDepth 20000 in
theorem gX8_plan_X3_fewest : GoodIn wsX8_plan (wsV RX8 167 RX3 yX3_fewest wsX3_fewest) := goodIn_app (goodIn_of _ (by decide +kernel)) ggX8_plan_X3_fewest
set_option maxRecDepth 20000 in
theorem ggX8_plan_X3_ways : GoodIn wsX8_plan wsX3_ways := goodIn_r _ [93, 8, 9, 72, 10, 11, 12, 6, 13, 14, 15, 16, 17, 18, 19, 20, 21, 22, 23, 24, 25, 26, 27, 28, 29, 30, 31, 32, 33, 34, 35, 36, 37, 38, 39, 40, 41, 42, 43, 44, 45, 46, 47, 48, 49, 50, 51, 52, 53, 54, 55, 56, 57, 58, 59, 60, 61, 62, 63, 64, 65, 66, 67, 68, 69, 70, 71, 73, 74, 75, 76, 77, 78, 79, 80, 81, 82, 83, 84, 85, 86, 87, 88, 89, 113, 114, 115, 116, 117, 118, 119, 120, 121, 122, 123, 124, 109, 110, 111, 112, 125, 126, 127] (by decide +kernel) (by decide +kernel)
set_option maxRecDepth 20000 in
theorem gX8_plan_X3_ways : GoodIn wsX8_plan (wsV RX8 177 RX3 yX3_ways wsX3_ways) := goodIn_app (goodIn_of _ (by decide +kernel)) ggX8_plan_X3_ways
set_option maxRecDepth 20000 in
theorem ggX8_plan_X3_stuckAt : GoodIn wsX8_plan wsX3_stuckAt := goodIn_r _ [97, 17, 10, 11, 12, 6, 13, 14, 15, 16, 9, 8, 18, 19, 20, 21, 22, 23, 24, 25, 26, 27, 28, 29, 30, 31, 32, 33, 34, 35, 36, 37, 38, 39, 40, 41, 42, 43, 44, 45, 46, 47, 48, 49, 50, 51, 52, 53, 54, 55, 56, 57, 58, 59, 60, 61, 62, 63, 64, 65, 66, 67, 68, 69, 70, 71, 72, 73, 74, 75, 76, 77, 78, 79, 80, 81, 82, 83, 84, 85, 86, 87, 88, 89, 109, 110, 111, 112, 113, 114, 115, 116, 117, 118, 119, 120, 121, 122, 123, 124, 125, 126, 127] (by decide +kernel) (by decide +kernel)
set_option maxRecDepth 20000 in
theorem gX8_plan_X3_stuckAt : GoodIn wsX8_plan (wsV RX8 181 RX3 yX3_stuckAt wsX3_stuckAt) := goodIn_app (goodIn_of _ (by decide +kernel)) ggX8_plan_X3_stuckAt
theorem dX8_plan_0 : decode cX8_plan 0 = .ok (.iload_n 1, 1) := by decide +kernel
theorem dX8_plan_1 : decode cX8_plan 1 = .ok (.ifCond .lt 8, 3) := by decide +kernel
theorem dX8_plan_4 : decode cX8_plan 4 = .ok (.iload_n 1, 1) := by decide +kernel
theorem dX8_plan_5 : decode cX8_plan 5 = .ok (.iconst 3, 1) := by decide +kernel
theorem dX8_plan_6 : decode cX8_plan 6 = .ok (.if_icmp .lt 6, 3) := by decide +kernel
theorem dX8_plan_9 : decode cX8_plan 9 = .ok (.bipush (-102), 2) := by decide +kernel
theorem dX8_plan_11 : decode cX8_plan 11 = .ok (.ireturn, 1) := by decide +kernel
theorem dX8_plan_12 : decode cX8_plan 12 = .ok (.aload_n 0, 1) := by decide +kernel
theorem dX8_plan_13 : decode cX8_plan 13 = .ok (.getfield 26, 3) := by decide +kernel
theorem dX8_plan_16 : decode cX8_plan 16 = .ok (.getfield 102, 3) := by decide +kernel
theorem dX8_plan_19 : decode cX8_plan 19 = .ok (.ifCond .ne 6, 3) := by decide +kernel
theorem dX8_plan_22 : decode cX8_plan 22 = .ok (.bipush (-103), 2) := by decide +kernel
theorem dX8_plan_24 : decode cX8_plan 24 = .ok (.ireturn, 1) := by decide +kernel
theorem dX8_plan_25 : decode cX8_plan 25 = .ok (.iload_n 1, 1) := by decide +kernel
theorem dX8_plan_26 : decode cX8_plan 26 = .ok (.lookupswitch 51 #[(0, 26), (1, 39)], 26) := by decide +kernel
theorem dX8_plan_52 : decode cX8_plan 52 = .ok (.aload_n 0, 1) := by decide +kernel
theorem dX8_plan_53 : decode cX8_plan 53 = .ok (.getfield 55, 3) := by decide +kernel
theorem dX8_plan_56 : decode cX8_plan 56 = .ok (.aload_n 0, 1) := by decide +kernel
theorem dX8_plan_57 : decode cX8_plan 57 = .ok (.getfield 26, 3) := by decide +kernel
theorem dX8_plan_60 : decode cX8_plan 60 = .ok (.iconst 0, 1) := by decide +kernel
theorem dX8_plan_61 : decode cX8_plan 61 = .ok (.invokevirtual 167, 3) := by decide +kernel
theorem dX8_plan_64 : decode cX8_plan 64 = .ok (.ireturn, 1) := by decide +kernel
theorem dX8_plan_65 : decode cX8_plan 65 = .ok (.aload_n 0, 1) := by decide +kernel
theorem dX8_plan_66 : decode cX8_plan 66 = .ok (.getfield 55, 3) := by decide +kernel
theorem dX8_plan_69 : decode cX8_plan 69 = .ok (.aload_n 0, 1) := by decide +kernel
theorem dX8_plan_70 : decode cX8_plan 70 = .ok (.getfield 26, 3) := by decide +kernel
theorem dX8_plan_73 : decode cX8_plan 73 = .ok (.invokevirtual 177, 3) := by decide +kernel
theorem dX8_plan_76 : decode cX8_plan 76 = .ok (.ireturn, 1) := by decide +kernel
theorem dX8_plan_77 : decode cX8_plan 77 = .ok (.aload_n 0, 1) := by decide +kernel
theorem dX8_plan_78 : decode cX8_plan 78 = .ok (.getfield 55, 3) := by decide +kernel
theorem dX8_plan_81 : decode cX8_plan 81 = .ok (.aload_n 0, 1) := by decide +kernel
theorem dX8_plan_82 : decode cX8_plan 82 = .ok (.getfield 26, 3) := by decide +kernel
theorem dX8_plan_85 : decode cX8_plan 85 = .ok (.invokevirtual 181, 3) := by decide +kernel
theorem dX8_plan_88 : decode cX8_plan 88 = .ok (.ireturn, 1) := by decide +kernel
set_option maxRecDepth 20000 in
theorem ggX8_setting_X2_has : GoodIn wsX8_setting wsX2_has := goodIn_r _ [7, 8, 119, 120, 121, 122] (by decide +kernel) (by decide +kernel)
set_option maxRecDepth 20000 in
theorem gX8_setting_X2_has : GoodIn wsX8_setting (wsV RX8 103 RX2 yX2_has wsX2_has) := goodIn_app (goodIn_of _ (by decide +kernel)) ggX8_setting_X2_has
set_option maxRecDepth 20000 in
theorem ggX8_setting_X3_bestSetting : GoodIn wsX8_setting wsX3_bestSetting := goodIn_r _ [13, 14, 15, 16, 17, 12, 18, 19, 20, 21, 22, 23, 24, 25, 26, 27, 28, 29, 30, 31, 32, 33, 34, 35, 36, 37, 38, 39, 40, 41, 42, 43, 44, 45, 46, 47, 48, 49, 50, 51, 52, 53, 54, 55, 56, 57, 58, 59, 60, 61, 62, 63, 64, 65, 66, 67, 68, 69, 70, 71, 72, 73, 74, 75, 76, 77, 78, 79, 80, 81, 82, 83, 84, 85, 86, 87, 88, 89, 90, 91, 92, 93, 94, 95, 96, 97, 98, 99, 100, 101, 102, 103, 4, 5, 6, 7, 8, 104, 105, 106, 107, 123, 124, 125, 126, 127, 128, 129, 130, 131, 132, 133, 134, 119, 120, 121, 122, 135, 136, 137] (by decide +kernel) (by decide +kernel)
set_option maxRecDepth 20000 in
theorem gX8_setting_X3_bestSetting : GoodIn wsX8_setting (wsV RX8 184 RX3 yX3_bestSetting wsX3_bestSetting) := goodIn_app (goodIn_of _ (by decide +kernel)) ggX8_setting_X3_bestSetting
theorem dX8_setting_0 : decode cX8_setting 0 = .ok (.aload_n 0, 1) := by decide +kernel
theorem dX8_setting_1 : decode cX8_setting 1 = .ok (.getfield 26, 3) := by decide +kernel
theorem dX8_setting_4 : decode cX8_setting 4 = .ok (.iload_n 1, 1) := by decide +kernel
theorem dX8_setting_5 : decode cX8_setting 5 = .ok (.invokevirtual 103, 3) := by decide +kernel
theorem dX8_setting_8 : decode cX8_setting 8 = .ok (.ifCond .eq 18, 3) := by decide +kernel
theorem dX8_setting_11 : decode cX8_setting 11 = .ok (.aload_n 0, 1) := by decide +kernel
theorem dX8_setting_12 : decode cX8_setting 12 = .ok (.getfield 55, 3) := by decide +kernel
theorem dX8_setting_15 : decode cX8_setting 15 = .ok (.aload_n 0, 1) := by decide +kernel
theorem dX8_setting_16 : decode cX8_setting 16 = .ok (.getfield 26, 3) := by decide +kernel
theorem dX8_setting_19 : decode cX8_setting 19 = .ok (.iload_n 1, 1) := by decide +kernel
theorem dX8_setting_20 : decode cX8_setting 20 = .ok (.invokevirtual 184, 3) := by decide +kernel
theorem dX8_setting_23 : decode cX8_setting 23 = .ok (.goto 5, 3) := by decide +kernel
theorem dX8_setting_26 : decode cX8_setting 26 = .ok (.bipush (-101), 2) := by decide +kernel
theorem dX8_setting_28 : decode cX8_setting 28 = .ok (.ireturn, 1) := by decide +kernel
set_option maxRecDepth 20000 in
theorem ggX8_reach_X2_has : GoodIn wsX8_reach wsX2_has := goodIn_r _ [7, 8, 108, 109, 110, 111] (by decide +kernel) (by decide +kernel)
set_option maxRecDepth 20000 in
theorem gX8_reach_X2_has : GoodIn wsX8_reach (wsV RX8 103 RX2 yX2_has wsX2_has) := goodIn_app (goodIn_of _ (by decide +kernel)) ggX8_reach_X2_has
set_option maxRecDepth 20000 in
theorem ggX8_reach_X3_howManyReached : GoodIn wsX8_reach wsX3_howManyReached := goodIn_r _ [13, 14, 15, 16, 17, 12, 18, 19, 20, 21, 22, 23, 24, 25, 26, 27, 28, 29, 30, 31, 32, 33, 34, 35, 36, 37, 38, 39, 40, 41, 42, 43, 44, 45, 46, 47, 48, 49, 50, 51, 52, 53, 54, 55, 56, 57, 58, 59, 60, 61, 62, 63, 64, 65, 66, 67, 68, 69, 70, 71, 72, 73, 74, 75, 76, 77, 78, 79, 80, 81, 82, 83, 84, 85, 86, 87, 88, 89, 90, 91, 92, 93, 94, 95, 96, 4, 5, 6, 7, 8, 112, 113, 114, 115, 116, 117, 118, 119, 120, 121, 122, 123, 108, 109, 110, 111, 124, 125, 126] (by decide +kernel) (by decide +kernel)
set_option maxRecDepth 20000 in
theorem gX8_reach_X3_howManyReached : GoodIn wsX8_reach (wsV RX8 187 RX3 yX3_howManyReached wsX3_howManyReached) := goodIn_app (goodIn_of _ (by decide +kernel)) ggX8_reach_X3_howManyReached
theorem dX8_reach_0 : decode cX8_reach 0 = .ok (.aload_n 0, 1) := by decide +kernel
theorem dX8_reach_1 : decode cX8_reach 1 = .ok (.getfield 26, 3) := by decide +kernel
theorem dX8_reach_4 : decode cX8_reach 4 = .ok (.iload_n 1, 1) := by decide +kernel
theorem dX8_reach_5 : decode cX8_reach 5 = .ok (.invokevirtual 103, 3) := by decide +kernel
theorem dX8_reach_8 : decode cX8_reach 8 = .ok (.ifCond .eq 18, 3) := by decide +kernel
theorem dX8_reach_11 : decode cX8_reach 11 = .ok (.aload_n 0, 1) := by decide +kernel
theorem dX8_reach_12 : decode cX8_reach 12 = .ok (.getfield 55, 3) := by decide +kernel
theorem dX8_reach_15 : decode cX8_reach 15 = .ok (.aload_n 0, 1) := by decide +kernel
theorem dX8_reach_16 : decode cX8_reach 16 = .ok (.getfield 26, 3) := by decide +kernel
theorem dX8_reach_19 : decode cX8_reach 19 = .ok (.iload_n 1, 1) := by decide +kernel
theorem dX8_reach_20 : decode cX8_reach 20 = .ok (.invokevirtual 187, 3) := by decide +kernel
theorem dX8_reach_23 : decode cX8_reach 23 = .ok (.goto 5, 3) := by decide +kernel
theorem dX8_reach_26 : decode cX8_reach 26 = .ok (.bipush (-101), 2) := by decide +kernel
theorem dX8_reach_28 : decode cX8_reach 28 = .ok (.ireturn, 1) := by decide +kernel
set_option maxRecDepth 20000 in
theorem ggX8_shifted_X8_isShift : GoodIn wsX8_shifted wsX8_isShift := goodIn_r _ [6] (by decide +kernel) (by decide +kernel)
set_option maxRecDepth 20000 in
theorem gX8_shifted_X8_isShift : GoodIn wsX8_shifted (va_wsS RX8 171 yX8_isShift wsX8_isShift) := goodIn_app (goodIn_of _ (by decide +kernel)) ggX8_shifted_X8_isShift
set_option maxRecDepth 20000 in
theorem ggX8_shifted_X3_fewest : GoodIn wsX8_shifted wsX3_fewest := goodIn_r _ [11, 12, 13, 14, 15, 16, 10, 17, 18, 19, 20, 21, 22, 23, 24, 25, 26, 27, 28, 29, 30, 31, 32, 33, 34, 35, 5, 36, 37, 38, 39, 40, 41, 42, 43, 44, 45, 46, 47, 48, 49, 50, 51, 52, 53, 54, 55, 56, 57, 58, 59, 60, 61, 62, 63, 64, 65, 66, 67, 68, 69, 70, 71, 72, 73, 74, 75, 76, 77, 78, 79, 80, 81, 82, 83, 84, 85, 86, 87, 88, 89, 90, 91, 92, 108, 109, 110, 111, 112, 113, 114, 115, 116, 117, 118, 119, 104, 105, 106, 107, 120, 121, 122] (by decide +kernel) (by decide +kernel)
set_option maxRecDepth 20000 in
theorem gX8_shifted_X3_fewest : GoodIn wsX8_shifted (wsV RX8 167 RX3 yX3_fewest wsX3_fewest) := goodIn_app (goodIn_of _ (by decide +kernel)) ggX8_shifted_X3_fewest
theorem dX8_shifted_0 : decode cX8_shifted 0 = .ok (.iload_n 1, 1) := by decide +kernel
theorem dX8_shifted_1 : decode cX8_shifted 1 = .ok (.invokestatic 171, 3) := by decide +kernel
theorem dX8_shifted_4 : decode cX8_shifted 4 = .ok (.ifCond .ne 6, 3) := by decide +kernel
theorem dX8_shifted_7 : decode cX8_shifted 7 = .ok (.bipush (-102), 2) := by decide +kernel
theorem dX8_shifted_9 : decode cX8_shifted 9 = .ok (.ireturn, 1) := by decide +kernel
theorem dX8_shifted_10 : decode cX8_shifted 10 = .ok (.aload_n 0, 1) := by decide +kernel
theorem dX8_shifted_11 : decode cX8_shifted 11 = .ok (.getfield 26, 3) := by decide +kernel
theorem dX8_shifted_14 : decode cX8_shifted 14 = .ok (.getfield 102, 3) := by decide +kernel
theorem dX8_shifted_17 : decode cX8_shifted 17 = .ok (.ifCond .ne 8, 3) := by decide +kernel
theorem dX8_shifted_20 : decode cX8_shifted 20 = .ok (.bipush (-103), 2) := by decide +kernel
theorem dX8_shifted_22 : decode cX8_shifted 22 = .ok (.goto 15, 3) := by decide +kernel
theorem dX8_shifted_25 : decode cX8_shifted 25 = .ok (.aload_n 0, 1) := by decide +kernel
theorem dX8_shifted_26 : decode cX8_shifted 26 = .ok (.getfield 55, 3) := by decide +kernel
theorem dX8_shifted_29 : decode cX8_shifted 29 = .ok (.aload_n 0, 1) := by decide +kernel
theorem dX8_shifted_30 : decode cX8_shifted 30 = .ok (.getfield 26, 3) := by decide +kernel
theorem dX8_shifted_33 : decode cX8_shifted 33 = .ok (.iload_n 1, 1) := by decide +kernel
theorem dX8_shifted_34 : decode cX8_shifted 34 = .ok (.invokevirtual 167, 3) := by decide +kernel
theorem dX8_shifted_37 : decode cX8_shifted 37 = .ok (.ireturn, 1) := by decide +kernel
set_option maxRecDepth 20000 in
theorem ggX8_leastShift_X3_fewest : GoodIn wsX8_leastShift wsX3_fewest := goodIn_r _ [9, 10, 11, 12, 13, 14, 8, 15, 16, 17, 18, 19, 20, 21, 22, 23, 24, 25, 26, 27, 28, 29, 30, 31, 32, 33, 34, 35, 36, 37, 38, 39, 40, 41, 42, 43, 44, 45, 46, 47, 48, 49, 50, 51, 52, 53, 54, 55, 56, 57, 58, 59, 60, 61, 62, 63, 64, 65, 66, 67, 68, 69, 70, 71, 72, 73, 74, 75, 76, 77, 78, 79, 80, 81, 82, 83, 84, 85, 86, 87, 88, 89, 90, 91, 107, 108, 109, 110, 111, 112, 113, 114, 115, 116, 117, 118, 103, 104, 105, 106, 119, 120, 121] (by decide +kernel) (by decide +kernel)
set_option maxRecDepth 20000 in
theorem gX8_leastShift_X3_fewest : GoodIn wsX8_leastShift (wsV RX8 167 RX3 yX3_fewest wsX3_fewest) := goodIn_app (goodIn_of _ (by decide +kernel)) ggX8_leastShift_X3_fewest
theorem dX8_leastShift_0 : decode cX8_leastShift 0 = .ok (.aload_n 0, 1) := by decide +kernel
theorem dX8_leastShift_1 : decode cX8_leastShift 1 = .ok (.getfield 26, 3) := by decide +kernel
theorem dX8_leastShift_4 : decode cX8_leastShift 4 = .ok (.getfield 102, 3) := by decide +kernel
theorem dX8_leastShift_7 : decode cX8_leastShift 7 = .ok (.ifCond .eq 11, 3) := by decide +kernel
theorem dX8_leastShift_10 : decode cX8_leastShift 10 = .ok (.aload_n 0, 1) := by decide +kernel
theorem dX8_leastShift_11 : decode cX8_leastShift 11 = .ok (.getfield 190, 3) := by decide +kernel
theorem dX8_leastShift_14 : decode cX8_leastShift 14 = .ok (.iconst 5, 1) := by decide +kernel
theorem dX8_leastShift_15 : decode cX8_leastShift 15 = .ok (.if_icmp .lt 6, 3) := by decide +kernel
theorem dX8_leastShift_18 : decode cX8_leastShift 18 = .ok (.bipush (-103), 2) := by decide +kernel
theorem dX8_leastShift_20 : decode cX8_leastShift 20 = .ok (.ireturn, 1) := by decide +kernel
theorem dX8_leastShift_21 : decode cX8_leastShift 21 = .ok (.aload_n 0, 1) := by decide +kernel
theorem dX8_leastShift_22 : decode cX8_leastShift 22 = .ok (.dup, 1) := by decide +kernel
theorem dX8_leastShift_23 : decode cX8_leastShift 23 = .ok (.getfield 190, 3) := by decide +kernel
theorem dX8_leastShift_26 : decode cX8_leastShift 26 = .ok (.iconst 1, 1) := by decide +kernel
theorem dX8_leastShift_27 : decode cX8_leastShift 27 = .ok (.iadd, 1) := by decide +kernel
theorem dX8_leastShift_28 : decode cX8_leastShift 28 = .ok (.putfield 190, 3) := by decide +kernel
theorem dX8_leastShift_31 : decode cX8_leastShift 31 = .ok (.iconst (-1), 1) := by decide +kernel
theorem dX8_leastShift_32 : decode cX8_leastShift 32 = .ok (.istore_n 1, 1) := by decide +kernel
theorem dX8_leastShift_33 : decode cX8_leastShift 33 = .ok (.ldc 193, 2) := by decide +kernel
theorem dX8_leastShift_35 : decode cX8_leastShift 35 = .ok (.istore_n 2, 1) := by decide +kernel
theorem dX8_leastShift_36 : decode cX8_leastShift 36 = .ok (.iconst 0, 1) := by decide +kernel
theorem dX8_leastShift_37 : decode cX8_leastShift 37 = .ok (.istore_n 3, 1) := by decide +kernel
theorem dX8_leastShift_38 : decode cX8_leastShift 38 = .ok (.iload_n 3, 1) := by decide +kernel
theorem dX8_leastShift_39 : decode cX8_leastShift 39 = .ok (.bipush 12, 2) := by decide +kernel
theorem dX8_leastShift_41 : decode cX8_leastShift 41 = .ok (.if_icmp .ge 40, 3) := by decide +kernel
theorem dX8_leastShift_44 : decode cX8_leastShift 44 = .ok (.aload_n 0, 1) := by decide +kernel
theorem dX8_leastShift_45 : decode cX8_leastShift 45 = .ok (.getfield 55, 3) := by decide +kernel
theorem dX8_leastShift_48 : decode cX8_leastShift 48 = .ok (.aload_n 0, 1) := by decide +kernel
theorem dX8_leastShift_49 : decode cX8_leastShift 49 = .ok (.getfield 26, 3) := by decide +kernel
theorem dX8_leastShift_52 : decode cX8_leastShift 52 = .ok (.iload_n 3, 1) := by decide +kernel
theorem dX8_leastShift_53 : decode cX8_leastShift 53 = .ok (.invokevirtual 167, 3) := by decide +kernel
theorem dX8_leastShift_56 : decode cX8_leastShift 56 = .ok (.istore 4, 2) := by decide +kernel
theorem dX8_leastShift_58 : decode cX8_leastShift 58 = .ok (.iload 4, 2) := by decide +kernel
theorem dX8_leastShift_60 : decode cX8_leastShift 60 = .ok (.iconst (-1), 1) := by decide +kernel
theorem dX8_leastShift_61 : decode cX8_leastShift 61 = .ok (.if_icmp .eq 14, 3) := by decide +kernel
theorem dX8_leastShift_64 : decode cX8_leastShift 64 = .ok (.iload 4, 2) := by decide +kernel
theorem dX8_leastShift_66 : decode cX8_leastShift 66 = .ok (.iload_n 2, 1) := by decide +kernel
theorem dX8_leastShift_67 : decode cX8_leastShift 67 = .ok (.if_icmp .ge 8, 3) := by decide +kernel
theorem dX8_leastShift_70 : decode cX8_leastShift 70 = .ok (.iload_n 3, 1) := by decide +kernel
theorem dX8_leastShift_71 : decode cX8_leastShift 71 = .ok (.istore_n 1, 1) := by decide +kernel
theorem dX8_leastShift_72 : decode cX8_leastShift 72 = .ok (.iload 4, 2) := by decide +kernel
theorem dX8_leastShift_74 : decode cX8_leastShift 74 = .ok (.istore_n 2, 1) := by decide +kernel
theorem dX8_leastShift_75 : decode cX8_leastShift 75 = .ok (.iinc 3 1, 3) := by decide +kernel
theorem dX8_leastShift_78 : decode cX8_leastShift 78 = .ok (.goto (-40), 3) := by decide +kernel
theorem dX8_leastShift_81 : decode cX8_leastShift 81 = .ok (.iload_n 1, 1) := by decide +kernel
theorem dX8_leastShift_82 : decode cX8_leastShift 82 = .ok (.ireturn, 1) := by decide +kernel
set_option maxRecDepth 20000 in
theorem ggX8_free_X3_bestBegin : GoodIn wsX8_free wsX3_bestBegin := goodIn_r _ [7, 8, 9, 10, 11, 6, 12, 13, 14, 15, 16, 17, 18, 19, 20, 21, 22, 23, 24, 25, 26, 27, 28, 29, 30, 31, 32, 33, 34, 35, 36, 37, 38, 39, 40, 41, 42, 43, 44, 45, 46, 47, 48, 49, 50, 51, 52, 53, 54, 55, 56, 57, 58, 59, 60, 61, 62, 63, 64, 65, 66, 67, 68, 69, 70, 71, 72, 73, 74, 75, 76, 77, 78, 79, 80, 81, 82, 83, 84, 85, 86, 87, 88, 89, 90, 91, 92, 93, 94, 95, 96, 97, 98, 99, 100, 116, 117, 118, 119, 120, 121, 122, 123, 124, 125, 126, 127, 112, 113, 114, 115, 128, 129, 130] (by decide +kernel) (by decide +kernel)
set_option maxRecDepth 20000 in
theorem gX8_free_X3_bestBegin : GoodIn wsX8_free (wsV RX8 194 RX3 yX3_bestBegin wsX3_bestBegin) := goodIn_app (goodIn_of _ (by decide +kernel)) ggX8_free_X3_bestBegin
theorem dX8_free_0 : decode cX8_free 0 = .ok (.aload_n 0, 1) := by decide +kernel
theorem dX8_free_1 : decode cX8_free 1 = .ok (.getfield 26, 3) := by decide +kernel
theorem dX8_free_4 : decode cX8_free 4 = .ok (.getfield 102, 3) := by decide +kernel
theorem dX8_free_7 : decode cX8_free 7 = .ok (.ifCond .ne 8, 3) := by decide +kernel
theorem dX8_free_10 : decode cX8_free 10 = .ok (.bipush (-103), 2) := by decide +kernel
theorem dX8_free_12 : decode cX8_free 12 = .ok (.goto 14, 3) := by decide +kernel
theorem dX8_free_15 : decode cX8_free 15 = .ok (.aload_n 0, 1) := by decide +kernel
theorem dX8_free_16 : decode cX8_free 16 = .ok (.getfield 55, 3) := by decide +kernel
theorem dX8_free_19 : decode cX8_free 19 = .ok (.aload_n 0, 1) := by decide +kernel
theorem dX8_free_20 : decode cX8_free 20 = .ok (.getfield 26, 3) := by decide +kernel
theorem dX8_free_23 : decode cX8_free 23 = .ok (.invokevirtual 194, 3) := by decide +kernel
theorem dX8_free_26 : decode cX8_free 26 = .ok (.ireturn, 1) := by decide +kernel
set_option maxRecDepth 20000 in
theorem ggX8_see_X2_has : GoodIn wsX8_see wsX2_has := goodIn_r _ [7, 8, 32, 33, 34, 35] (by decide +kernel) (by decide +kernel)
set_option maxRecDepth 20000 in
theorem gX8_see_X2_has : GoodIn wsX8_see (wsV RX8 103 RX2 yX2_has wsX2_has) := goodIn_app (goodIn_of _ (by decide +kernel)) ggX8_see_X2_has
set_option maxRecDepth 20000 in
theorem ggX8_see_X6_add : GoodIn wsX8_see wsX6_add := goodIn_r _ [13, 14, 15, 16, 17, 29, 30, 31] (by decide +kernel) (by decide +kernel)
set_option maxRecDepth 20000 in
theorem gX8_see_X6_add : GoodIn wsX8_see (wsV RX8 197 RX6 yX6_add wsX6_add) := goodIn_app (goodIn_of _ (by decide +kernel)) ggX8_see_X6_add
theorem dX8_see_0 : decode cX8_see 0 = .ok (.aload_n 0, 1) := by decide +kernel
theorem dX8_see_1 : decode cX8_see 1 = .ok (.getfield 26, 3) := by decide +kernel
theorem dX8_see_4 : decode cX8_see 4 = .ok (.iload_n 1, 1) := by decide +kernel
theorem dX8_see_5 : decode cX8_see 5 = .ok (.invokevirtual 103, 3) := by decide +kernel
theorem dX8_see_8 : decode cX8_see 8 = .ok (.ifCond .ne 6, 3) := by decide +kernel
theorem dX8_see_11 : decode cX8_see 11 = .ok (.bipush (-101), 2) := by decide +kernel
theorem dX8_see_13 : decode cX8_see 13 = .ok (.ireturn, 1) := by decide +kernel
theorem dX8_see_14 : decode cX8_see 14 = .ok (.iload_n 2, 1) := by decide +kernel
theorem dX8_see_15 : decode cX8_see 15 = .ok (.ifCond .lt 8, 3) := by decide +kernel
theorem dX8_see_18 : decode cX8_see 18 = .ok (.iload_n 2, 1) := by decide +kernel
theorem dX8_see_19 : decode cX8_see 19 = .ok (.iconst 4, 1) := by decide +kernel
theorem dX8_see_20 : decode cX8_see 20 = .ok (.if_icmp .lt 6, 3) := by decide +kernel
theorem dX8_see_23 : decode cX8_see 23 = .ok (.bipush (-102), 2) := by decide +kernel
theorem dX8_see_25 : decode cX8_see 25 = .ok (.ireturn, 1) := by decide +kernel
theorem dX8_see_26 : decode cX8_see 26 = .ok (.aload_n 0, 1) := by decide +kernel
theorem dX8_see_27 : decode cX8_see 27 = .ok (.getfield 36, 3) := by decide +kernel
theorem dX8_see_30 : decode cX8_see 30 = .ok (.iload_n 1, 1) := by decide +kernel
theorem dX8_see_31 : decode cX8_see 31 = .ok (.iload_n 2, 1) := by decide +kernel
theorem dX8_see_32 : decode cX8_see 32 = .ok (.iload_n 3, 1) := by decide +kernel
theorem dX8_see_33 : decode cX8_see 33 = .ok (.invokevirtual 197, 3) := by decide +kernel
theorem dX8_see_36 : decode cX8_see 36 = .ok (.ifCond .eq 13, 3) := by decide +kernel
theorem dX8_see_39 : decode cX8_see 39 = .ok (.aload_n 0, 1) := by decide +kernel
theorem dX8_see_40 : decode cX8_see 40 = .ok (.getfield 36, 3) := by decide +kernel
theorem dX8_see_43 : decode cX8_see 43 = .ok (.getfield 201, 3) := by decide +kernel
theorem dX8_see_46 : decode cX8_see 46 = .ok (.goto 5, 3) := by decide +kernel
theorem dX8_see_49 : decode cX8_see 49 = .ok (.bipush (-104), 2) := by decide +kernel
theorem dX8_see_51 : decode cX8_see 51 = .ok (.ireturn, 1) := by decide +kernel
set_option maxRecDepth 20000 in
theorem ggX8_forget_X6_clear : GoodIn wsX8_forget wsX6_clear := goodIn_r _ [6, 7, 19, 20, 21] (by decide +kernel) (by decide +kernel)
set_option maxRecDepth 20000 in
theorem gX8_forget_X6_clear : GoodIn wsX8_forget (wsV RX8 96 RX6 yX6_clear wsX6_clear) := goodIn_app (goodIn_of _ (by decide +kernel)) ggX8_forget_X6_clear
theorem dX8_forget_0 : decode cX8_forget 0 = .ok (.aload_n 0, 1) := by decide +kernel
theorem dX8_forget_1 : decode cX8_forget 1 = .ok (.getfield 36, 3) := by decide +kernel
theorem dX8_forget_4 : decode cX8_forget 4 = .ok (.invokevirtual 96, 3) := by decide +kernel
theorem dX8_forget_7 : decode cX8_forget 7 = .ok (.ireturn, 1) := by decide +kernel
set_option maxRecDepth 20000 in
theorem ggX8_drawn_X4_playDrawn : GoodIn wsX8_drawn wsX4_playDrawn := goodIn_r _ [7, 8, 9, 10, 11, 12, 13, 14, 15, 16, 17, 18, 19, 20, 21, 22, 23, 24, 25, 26, 27, 6, 28, 29, 30, 31, 32, 33, 34, 35, 36, 37, 38, 39, 40, 41, 42, 43, 44, 45, 46, 47, 48, 49, 50, 51, 52, 53, 69, 70, 71, 72, 73, 74, 75, 76, 77] (by decide +kernel) (by decide +kernel)
set_option maxRecDepth 20000 in
theorem gX8_drawn_X4_playDrawn : GoodIn wsX8_drawn (wsV RX8 202 RX4 yX4_playDrawn wsX4_playDrawn) := goodIn_app (goodIn_of _ (by decide +kernel)) ggX8_drawn_X4_playDrawn
theorem dX8_drawn_0 : decode cX8_drawn 0 = .ok (.iload_n 1, 1) := by decide +kernel
theorem dX8_drawn_1 : decode cX8_drawn 1 = .ok (.iconst 1, 1) := by decide +kernel
theorem dX8_drawn_2 : decode cX8_drawn 2 = .ok (.if_icmp .lt 22, 3) := by decide +kernel
theorem dX8_drawn_5 : decode cX8_drawn 5 = .ok (.iload_n 1, 1) := by decide +kernel
theorem dX8_drawn_6 : decode cX8_drawn 6 = .ok (.bipush 30, 2) := by decide +kernel
theorem dX8_drawn_8 : decode cX8_drawn 8 = .ok (.if_icmp .gt 16, 3) := by decide +kernel
theorem dX8_drawn_11 : decode cX8_drawn 11 = .ok (.iload_n 2, 1) := by decide +kernel
theorem dX8_drawn_12 : decode cX8_drawn 12 = .ok (.ifCond .lt 12, 3) := by decide +kernel
theorem dX8_drawn_15 : decode cX8_drawn 15 = .ok (.iload_n 3, 1) := by decide +kernel
theorem dX8_drawn_16 : decode cX8_drawn 16 = .ok (.ifCond .lt 8, 3) := by decide +kernel
theorem dX8_drawn_19 : decode cX8_drawn 19 = .ok (.iload_n 3, 1) := by decide +kernel
theorem dX8_drawn_20 : decode cX8_drawn 20 = .ok (.iconst 3, 1) := by decide +kernel
theorem dX8_drawn_21 : decode cX8_drawn 21 = .ok (.if_icmp .lt 6, 3) := by decide +kernel
theorem dX8_drawn_24 : decode cX8_drawn 24 = .ok (.bipush (-102), 2) := by decide +kernel
theorem dX8_drawn_26 : decode cX8_drawn 26 = .ok (.ireturn, 1) := by decide +kernel
theorem dX8_drawn_27 : decode cX8_drawn 27 = .ok (.aload_n 0, 1) := by decide +kernel
theorem dX8_drawn_28 : decode cX8_drawn 28 = .ok (.getfield 26, 3) := by decide +kernel
theorem dX8_drawn_31 : decode cX8_drawn 31 = .ok (.getfield 102, 3) := by decide +kernel
theorem dX8_drawn_34 : decode cX8_drawn 34 = .ok (.ifCond .ne 6, 3) := by decide +kernel
theorem dX8_drawn_37 : decode cX8_drawn 37 = .ok (.bipush (-103), 2) := by decide +kernel
theorem dX8_drawn_39 : decode cX8_drawn 39 = .ok (.ireturn, 1) := by decide +kernel
theorem dX8_drawn_40 : decode cX8_drawn 40 = .ok (.aload_n 0, 1) := by decide +kernel
theorem dX8_drawn_41 : decode cX8_drawn 41 = .ok (.getfield 62, 3) := by decide +kernel
theorem dX8_drawn_44 : decode cX8_drawn 44 = .ok (.aload_n 0, 1) := by decide +kernel
theorem dX8_drawn_45 : decode cX8_drawn 45 = .ok (.getfield 26, 3) := by decide +kernel
theorem dX8_drawn_48 : decode cX8_drawn 48 = .ok (.getfield 142, 3) := by decide +kernel
theorem dX8_drawn_51 : decode cX8_drawn 51 = .ok (.iload_n 1, 1) := by decide +kernel
theorem dX8_drawn_52 : decode cX8_drawn 52 = .ok (.iload_n 2, 1) := by decide +kernel
theorem dX8_drawn_53 : decode cX8_drawn 53 = .ok (.invokevirtual 202, 3) := by decide +kernel
theorem dX8_drawn_56 : decode cX8_drawn 56 = .ok (.iload_n 3, 1) := by decide +kernel
theorem dX8_drawn_57 : decode cX8_drawn 57 = .ok (.lookupswitch 43 #[(0, 27), (1, 35)], 27) := by decide +kernel
theorem dX8_drawn_84 : decode cX8_drawn 84 = .ok (.aload_n 0, 1) := by decide +kernel
theorem dX8_drawn_85 : decode cX8_drawn 85 = .ok (.getfield 62, 3) := by decide +kernel
theorem dX8_drawn_88 : decode cX8_drawn 88 = .ok (.getfield 206, 3) := by decide +kernel
theorem dX8_drawn_91 : decode cX8_drawn 91 = .ok (.ireturn, 1) := by decide +kernel
theorem dX8_drawn_92 : decode cX8_drawn 92 = .ok (.aload_n 0, 1) := by decide +kernel
theorem dX8_drawn_93 : decode cX8_drawn 93 = .ok (.getfield 62, 3) := by decide +kernel
theorem dX8_drawn_96 : decode cX8_drawn 96 = .ok (.getfield 209, 3) := by decide +kernel
theorem dX8_drawn_99 : decode cX8_drawn 99 = .ok (.ireturn, 1) := by decide +kernel
theorem dX8_drawn_100 : decode cX8_drawn 100 = .ok (.aload_n 0, 1) := by decide +kernel
theorem dX8_drawn_101 : decode cX8_drawn 101 = .ok (.getfield 62, 3) := by decide +kernel
theorem dX8_drawn_104 : decode cX8_drawn 104 = .ok (.getfield 212, 3) := by decide +kernel
theorem dX8_drawn_107 : decode cX8_drawn 107 = .ok (.ireturn, 1) := by decide +kernel
set_option maxRecDepth 20000 in
theorem ggX8_image_X2_become : GoodIn wsX8_image wsX2_become := goodIn_r _ [9, 10, 11, 12, 13, 14, 15, 16, 17, 38, 39, 40, 41] (by decide +kernel) (by decide +kernel)
set_option maxRecDepth 20000 in
theorem gX8_image_X2_become : GoodIn wsX8_image (wsV RX8 89 RX2 yX2_become wsX2_become) := goodIn_app (goodIn_of _ (by decide +kernel)) ggX8_image_X2_become
set_option maxRecDepth 20000 in
theorem ggX8_image_X6_become : GoodIn wsX8_image wsX6_become := goodIn_r _ [22, 23, 24, 25, 14, 15, 16, 26, 42, 43, 44] (by decide +kernel) (by decide +kernel)
set_option maxRecDepth 20000 in
theorem gX8_image_X6_become : GoodIn wsX8_image (wsV RX8 215 RX6 yX6_become wsX6_become) := goodIn_app (goodIn_of _ (by decide +kernel)) ggX8_image_X6_become
theorem dX8_image_0 : decode cX8_image 0 = .ok (.aload_n 0, 1) := by decide +kernel
theorem dX8_image_1 : decode cX8_image 1 = .ok (.getfield 26, 3) := by decide +kernel
theorem dX8_image_4 : decode cX8_image 4 = .ok (.getfield 102, 3) := by decide +kernel
theorem dX8_image_7 : decode cX8_image 7 = .ok (.ifCond .ne 6, 3) := by decide +kernel
theorem dX8_image_10 : decode cX8_image 10 = .ok (.bipush (-103), 2) := by decide +kernel
theorem dX8_image_12 : decode cX8_image 12 = .ok (.ireturn, 1) := by decide +kernel
theorem dX8_image_13 : decode cX8_image 13 = .ok (.aload_n 0, 1) := by decide +kernel
theorem dX8_image_14 : decode cX8_image 14 = .ok (.getfield 30, 3) := by decide +kernel
theorem dX8_image_17 : decode cX8_image 17 = .ok (.aload_n 0, 1) := by decide +kernel
theorem dX8_image_18 : decode cX8_image 18 = .ok (.getfield 26, 3) := by decide +kernel
theorem dX8_image_21 : decode cX8_image 21 = .ok (.invokevirtual 89, 3) := by decide +kernel
theorem dX8_image_24 : decode cX8_image 24 = .ok (.aload_n 0, 1) := by decide +kernel
theorem dX8_image_25 : decode cX8_image 25 = .ok (.getfield 40, 3) := by decide +kernel
theorem dX8_image_28 : decode cX8_image 28 = .ok (.aload_n 0, 1) := by decide +kernel
theorem dX8_image_29 : decode cX8_image 29 = .ok (.getfield 36, 3) := by decide +kernel
theorem dX8_image_32 : decode cX8_image 32 = .ok (.invokevirtual 215, 3) := by decide +kernel
theorem dX8_image_35 : decode cX8_image 35 = .ok (.aload_n 0, 1) := by decide +kernel
theorem dX8_image_36 : decode cX8_image 36 = .ok (.getfield 26, 3) := by decide +kernel
theorem dX8_image_39 : decode cX8_image 39 = .ok (.getfield 102, 3) := by decide +kernel
theorem dX8_image_42 : decode cX8_image 42 = .ok (.ireturn, 1) := by decide +kernel
set_option maxRecDepth 20000 in
theorem ggX8_restore_X2_become : GoodIn wsX8_restore wsX2_become := goodIn_r _ [10, 11, 12, 13, 14, 15, 16, 17, 18, 46, 47, 48, 49] (by decide +kernel) (by decide +kernel)
set_option maxRecDepth 20000 in
theorem gX8_restore_X2_become : GoodIn wsX8_restore (wsV RX8 89 RX2 yX2_become wsX2_become) := goodIn_app (goodIn_of _ (by decide +kernel)) ggX8_restore_X2_become
set_option maxRecDepth 20000 in
theorem ggX8_restore_X6_become : GoodIn wsX8_restore wsX6_become := goodIn_r _ [23, 24, 25, 26, 15, 16, 17, 27, 50, 51, 52] (by decide +kernel) (by decide +kernel)
set_option maxRecDepth 20000 in
theorem gX8_restore_X6_become : GoodIn wsX8_restore (wsV RX8 215 RX6 yX6_become wsX6_become) := goodIn_app (goodIn_of _ (by decide +kernel)) ggX8_restore_X6_become
set_option maxRecDepth 20000 in
theorem ggX8_restore_X3_makeStale : GoodIn wsX8_restore wsX3_makeStale := goodIn_r _ [32, 33, 34, 53, 54, 55, 56, 57, 58, 59, 60, 61, 62, 63, 64] (by decide +kernel) (by decide +kernel)
set_option maxRecDepth 20000 in
theorem gX8_restore_X3_makeStale : GoodIn wsX8_restore (wsV RX8 93 RX3 yX3_makeStale wsX3_makeStale) := goodIn_app (goodIn_of _ (by decide +kernel)) ggX8_restore_X3_makeStale
theorem dX8_restore_0 : decode cX8_restore 0 = .ok (.aload_n 0, 1) := by decide +kernel
theorem dX8_restore_1 : decode cX8_restore 1 = .ok (.getfield 30, 3) := by decide +kernel
theorem dX8_restore_4 : decode cX8_restore 4 = .ok (.getfield 102, 3) := by decide +kernel
theorem dX8_restore_7 : decode cX8_restore 7 = .ok (.ifCond .ne 6, 3) := by decide +kernel
theorem dX8_restore_10 : decode cX8_restore 10 = .ok (.bipush (-103), 2) := by decide +kernel
theorem dX8_restore_12 : decode cX8_restore 12 = .ok (.ireturn, 1) := by decide +kernel
theorem dX8_restore_13 : decode cX8_restore 13 = .ok (.aload_n 0, 1) := by decide +kernel
theorem dX8_restore_14 : decode cX8_restore 14 = .ok (.getfield 26, 3) := by decide +kernel
theorem dX8_restore_17 : decode cX8_restore 17 = .ok (.aload_n 0, 1) := by decide +kernel
theorem dX8_restore_18 : decode cX8_restore 18 = .ok (.getfield 30, 3) := by decide +kernel
theorem dX8_restore_21 : decode cX8_restore 21 = .ok (.invokevirtual 89, 3) := by decide +kernel
theorem dX8_restore_24 : decode cX8_restore 24 = .ok (.aload_n 0, 1) := by decide +kernel
theorem dX8_restore_25 : decode cX8_restore 25 = .ok (.getfield 36, 3) := by decide +kernel
theorem dX8_restore_28 : decode cX8_restore 28 = .ok (.aload_n 0, 1) := by decide +kernel
theorem dX8_restore_29 : decode cX8_restore 29 = .ok (.getfield 40, 3) := by decide +kernel
theorem dX8_restore_32 : decode cX8_restore 32 = .ok (.invokevirtual 215, 3) := by decide +kernel
theorem dX8_restore_35 : decode cX8_restore 35 = .ok (.aload_n 0, 1) := by decide +kernel
theorem dX8_restore_36 : decode cX8_restore 36 = .ok (.getfield 55, 3) := by decide +kernel
theorem dX8_restore_39 : decode cX8_restore 39 = .ok (.invokevirtual 93, 3) := by decide +kernel
theorem dX8_restore_42 : decode cX8_restore 42 = .ok (.aload_n 0, 1) := by decide +kernel
theorem dX8_restore_43 : decode cX8_restore 43 = .ok (.getfield 26, 3) := by decide +kernel
theorem dX8_restore_46 : decode cX8_restore 46 = .ok (.getfield 102, 3) := by decide +kernel
theorem dX8_restore_49 : decode cX8_restore 49 = .ok (.ireturn, 1) := by decide +kernel
set_option maxRecDepth 20000 in
theorem ggX8_count_X7_numberOf : GoodIn wsX8_count wsX7_numberOf := goodIn_r _ [9, 10, 11, 8, 12] (by decide +kernel) (by decide +kernel)
set_option maxRecDepth 20000 in
theorem gX8_count_X7_numberOf : GoodIn wsX8_count (va_wsS RX8 149 yX7_numberOf wsX7_numberOf) := goodIn_app (goodIn_of _ (by decide +kernel)) ggX8_count_X7_numberOf
set_option maxRecDepth 20000 in
theorem ggX8_count_X2_tonesOfAll : GoodIn wsX8_count wsX2_tonesOfAll := goodIn_r _ [17, 18, 19, 38, 39, 40, 41] (by decide +kernel) (by decide +kernel)
set_option maxRecDepth 20000 in
theorem gX8_count_X2_tonesOfAll : GoodIn wsX8_count (wsV RX8 218 RX2 yX2_tonesOfAll wsX2_tonesOfAll) := goodIn_app (goodIn_of _ (by decide +kernel)) ggX8_count_X2_tonesOfAll
set_option maxRecDepth 20000 in
theorem ggX8_count_J6_bitCount_0f7a4 : GoodIn wsX8_count wsJ6_bitCount_0f7a4 := goodIn_r _ [23, 24, 25, 26] (by decide +kernel) (by decide +kernel)
set_option maxRecDepth 20000 in
theorem gX8_count_J6_bitCount_0f7a4 : GoodIn wsX8_count (va_wsS RX8 221 yJ6_bitCount_0f7a4 wsJ6_bitCount_0f7a4) := goodIn_app (goodIn_of _ (by decide +kernel)) ggX8_count_J6_bitCount_0f7a4
theorem dX8_count_0 : decode cX8_count 0 = .ok (.iload_n 1, 1) := by decide +kernel
theorem dX8_count_1 : decode cX8_count 1 = .ok (.tableswitch 113 0 6 #[43, 51, 76, 87, 95, 103, 108], 43) := by decide +kernel
theorem dX8_count_44 : decode cX8_count 44 = .ok (.aload_n 0, 1) := by decide +kernel
theorem dX8_count_45 : decode cX8_count 45 = .ok (.getfield 26, 3) := by decide +kernel
theorem dX8_count_48 : decode cX8_count 48 = .ok (.getfield 102, 3) := by decide +kernel
theorem dX8_count_51 : decode cX8_count 51 = .ok (.ireturn, 1) := by decide +kernel
theorem dX8_count_52 : decode cX8_count 52 = .ok (.aload_n 0, 1) := by decide +kernel
theorem dX8_count_53 : decode cX8_count 53 = .ok (.getfield 26, 3) := by decide +kernel
theorem dX8_count_56 : decode cX8_count 56 = .ok (.getfield 102, 3) := by decide +kernel
theorem dX8_count_59 : decode cX8_count 59 = .ok (.ifCond .ne 7, 3) := by decide +kernel
theorem dX8_count_62 : decode cX8_count 62 = .ok (.iconst (-1), 1) := by decide +kernel
theorem dX8_count_63 : decode cX8_count 63 = .ok (.goto 13, 3) := by decide +kernel
theorem dX8_count_66 : decode cX8_count 66 = .ok (.aload_n 0, 1) := by decide +kernel
theorem dX8_count_67 : decode cX8_count 67 = .ok (.getfield 26, 3) := by decide +kernel
theorem dX8_count_70 : decode cX8_count 70 = .ok (.getfield 142, 3) := by decide +kernel
theorem dX8_count_73 : decode cX8_count 73 = .ok (.invokestatic 149, 3) := by decide +kernel
theorem dX8_count_76 : decode cX8_count 76 = .ok (.ireturn, 1) := by decide +kernel
theorem dX8_count_77 : decode cX8_count 77 = .ok (.aload_n 0, 1) := by decide +kernel
theorem dX8_count_78 : decode cX8_count 78 = .ok (.getfield 26, 3) := by decide +kernel
theorem dX8_count_81 : decode cX8_count 81 = .ok (.invokevirtual 218, 3) := by decide +kernel
theorem dX8_count_84 : decode cX8_count 84 = .ok (.invokestatic 221, 3) := by decide +kernel
theorem dX8_count_87 : decode cX8_count 87 = .ok (.ireturn, 1) := by decide +kernel
theorem dX8_count_88 : decode cX8_count 88 = .ok (.aload_n 0, 1) := by decide +kernel
theorem dX8_count_89 : decode cX8_count 89 = .ok (.getfield 36, 3) := by decide +kernel
theorem dX8_count_92 : decode cX8_count 92 = .ok (.getfield 201, 3) := by decide +kernel
theorem dX8_count_95 : decode cX8_count 95 = .ok (.ireturn, 1) := by decide +kernel
theorem dX8_count_96 : decode cX8_count 96 = .ok (.aload_n 0, 1) := by decide +kernel
theorem dX8_count_97 : decode cX8_count 97 = .ok (.getfield 10, 3) := by decide +kernel
theorem dX8_count_100 : decode cX8_count 100 = .ok (.getfield 70, 3) := by decide +kernel
theorem dX8_count_103 : decode cX8_count 103 = .ok (.ireturn, 1) := by decide +kernel
theorem dX8_count_104 : decode cX8_count 104 = .ok (.aload_n 0, 1) := by decide +kernel
theorem dX8_count_105 : decode cX8_count 105 = .ok (.getfield 99, 3) := by decide +kernel
theorem dX8_count_108 : decode cX8_count 108 = .ok (.ireturn, 1) := by decide +kernel
theorem dX8_count_109 : decode cX8_count 109 = .ok (.aload_n 0, 1) := by decide +kernel
theorem dX8_count_110 : decode cX8_count 110 = .ok (.getfield 190, 3) := by decide +kernel
theorem dX8_count_113 : decode cX8_count 113 = .ok (.ireturn, 1) := by decide +kernel
theorem dX8_count_114 : decode cX8_count 114 = .ok (.bipush (-102), 2) := by decide +kernel
theorem dX8_count_116 : decode cX8_count 116 = .ok (.ireturn, 1) := by decide +kernel
set_option maxRecDepth 20000 in
theorem ggX8_digest_X8_chord : GoodIn wsX8_digest wsX8_chord := goodIn_r _ [10, 2, 11, 12, 13, 14, 15, 16, 17, 18, 19, 20, 21, 22, 23, 24, 25, 26, 27, 28, 29, 30, 31, 32, 33, 34, 35, 36, 37, 38, 39, 40, 41, 42, 43, 44, 45, 46, 47, 48, 49, 50, 51, 52, 53, 54, 55, 56, 57, 58, 59, 60, 61, 62, 63, 64, 65, 66, 210, 211, 212, 213, 214, 215, 216, 217, 218, 219, 220, 221, 222, 223, 224, 227, 228, 229, 230] (by decide +kernel) (by decide +kernel)
set_option maxRecDepth 20000 in
theorem gX8_digest_X8_chord : GoodIn wsX8_digest (wsV RX8 230 RX8 yX8_chord wsX8_chord) := goodIn_app (goodIn_of _ (by decide +kernel)) ggX8_digest_X8_chord
set_option maxRecDepth 20000 in
theorem ggX8_digest_X3_bestSetting : GoodIn wsX8_digest wsX3_bestSetting := goodIn_r _ [71, 72, 73, 74, 75, 70, 76, 77, 78, 79, 80, 81, 82, 83, 84, 85, 86, 25, 26, 22, 27, 28, 87, 88, 89, 90, 91, 92, 9, 93, 94, 95, 96, 97, 98, 99, 100, 101, 102, 103, 104, 105, 106, 107, 108, 109, 110, 111, 112, 113, 114, 115, 116, 117, 118, 119, 120, 121, 37, 38, 122, 123, 124, 125, 126, 127, 128, 129, 130, 131, 132, 133, 134, 135, 136, 137, 138, 139, 140, 141, 142, 143, 144, 145, 146, 147, 148, 149, 150, 151, 152, 153, 14, 15, 16, 17, 18, 154, 34, 35, 36, 231, 232, 233, 234, 235, 236, 237, 238, 239, 240, 241, 242, 221, 222, 223, 224, 227, 243, 244] (by decide +kernel) (by decide +kernel)
set_option maxRecDepth 20000 in
theorem gX8_digest_X3_bestSetting : GoodIn wsX8_digest (wsV RX8 184 RX3 yX3_bestSetting wsX3_bestSetting) := goodIn_app (goodIn_of _ (by decide +kernel)) ggX8_digest_X3_bestSetting
set_option maxRecDepth 20000 in
theorem ggX8_digest_X3_howManyReached : GoodIn wsX8_digest wsX3_howManyReached := goodIn_r _ [158, 159, 160, 161, 162, 70, 163, 164, 165, 166, 85, 167, 168, 169, 170, 171, 172, 173, 22, 174, 87, 88, 89, 90, 91, 92, 9, 93, 94, 95, 96, 97, 98, 99, 100, 101, 102, 103, 104, 105, 106, 107, 108, 109, 110, 111, 112, 113, 114, 115, 84, 116, 117, 118, 119, 120, 121, 37, 38, 122, 123, 124, 125, 126, 127, 128, 129, 130, 131, 86, 25, 26, 27, 28, 132, 133, 134, 135, 175, 176, 177, 178, 179, 180, 153, 14, 15, 16, 17, 18, 231, 232, 233, 234, 235, 236, 237, 238, 239, 240, 241, 242, 221, 222, 223, 224, 243, 244, 227] (by decide +kernel) (by decide +kernel)
set_option maxRecDepth 20000 in
theorem gX8_digest_X3_howManyReached : GoodIn wsX8_digest (wsV RX8 187 RX3 yX3_howManyReached wsX3_howManyReached) := goodIn_app (goodIn_of _ (by decide +kernel)) ggX8_digest_X3_howManyReached
set_option maxRecDepth 20000 in
theorem ggX8_digest_X8_plan : GoodIn wsX8_digest wsX8_plan := goodIn_r _ [184, 2, 4, 185, 186, 187, 70, 188, 167, 85, 160, 161, 162, 163, 164, 165, 166, 159, 168, 169, 170, 171, 172, 173, 22, 174, 87, 88, 89, 90, 91, 92, 9, 93, 94, 95, 96, 97, 98, 99, 100, 101, 102, 103, 104, 105, 106, 107, 108, 109, 110, 111, 112, 113, 114, 115, 84, 116, 117, 118, 119, 120, 121, 37, 38, 122, 123, 124, 125, 126, 127, 128, 129, 130, 131, 86, 25, 26, 27, 28, 132, 133, 134, 135, 175, 176, 177, 178, 179, 180, 189, 190, 191, 192, 193, 194, 195, 196, 210, 211, 212, 213, 214, 215, 216, 217, 218, 219, 220, 221, 222, 223, 224, 231, 232, 233, 234, 235, 236, 237, 238, 239, 240, 241, 242, 243, 244, 227] (by decide +kernel) (by decide +kernel)
set_option maxRecDepth 20000 in
theorem gX8_digest_X8_plan : GoodIn wsX8_digest (wsV RX8 233 RX8 yX8_plan wsX8_plan) := goodIn_app (goodIn_of _ (by decide +kernel)) ggX8_digest_X8_plan
set_option maxRecDepth 20000 in
theorem ggX8_digest_X8_count : GoodIn wsX8_digest wsX8_count := goodIn_r _ [200, 2, 12, 5, 201, 202, 203, 34, 22, 35, 36, 37, 38, 204, 205, 206, 16, 207, 18, 208, 209, 61, 62, 63, 64, 65, 66, 210, 211, 212, 213, 214, 215, 216, 217, 218, 219, 220, 221, 222, 223, 224, 228, 229, 230, 225, 226] (by decide +kernel) (by decide +kernel)
set_option maxRecDepth 20000 in
theorem gX8_digest_X8_count : GoodIn wsX8_digest (wsV RX8 239 RX8 yX8_count wsX8_count) := goodIn_app (goodIn_of _ (by decide +kernel)) ggX8_digest_X8_count
theorem dX8_digest_0 : decode cX8_digest 0 = .ok (.ldc2_w 226, 3) := by decide +kernel
theorem dX8_digest_3 : decode cX8_digest 3 = .ok (.lstore_n 1, 1) := by decide +kernel
theorem dX8_digest_4 : decode cX8_digest 4 = .ok (.iconst 0, 1) := by decide +kernel
theorem dX8_digest_5 : decode cX8_digest 5 = .ok (.istore_n 3, 1) := by decide +kernel
theorem dX8_digest_6 : decode cX8_digest 6 = .ok (.iload_n 3, 1) := by decide +kernel
theorem dX8_digest_7 : decode cX8_digest 7 = .ok (.aload_n 0, 1) := by decide +kernel
theorem dX8_digest_8 : decode cX8_digest 8 = .ok (.getfield 26, 3) := by decide +kernel
theorem dX8_digest_11 : decode cX8_digest 11 = .ok (.getfield 102, 3) := by decide +kernel
theorem dX8_digest_14 : decode cX8_digest 14 = .ok (.if_icmp .ge 80, 3) := by decide +kernel
theorem dX8_digest_17 : decode cX8_digest 17 = .ok (.iconst 0, 1) := by decide +kernel
theorem dX8_digest_18 : decode cX8_digest 18 = .ok (.istore 4, 2) := by decide +kernel
theorem dX8_digest_20 : decode cX8_digest 20 = .ok (.iload 4, 2) := by decide +kernel
theorem dX8_digest_22 : decode cX8_digest 22 = .ok (.bipush 6, 2) := by decide +kernel
theorem dX8_digest_24 : decode cX8_digest 24 = .ok (.if_icmp .ge 24, 3) := by decide +kernel
theorem dX8_digest_27 : decode cX8_digest 27 = .ok (.ldc2_w 228, 3) := by decide +kernel
theorem dX8_digest_30 : decode cX8_digest 30 = .ok (.lload_n 1, 1) := by decide +kernel
theorem dX8_digest_31 : decode cX8_digest 31 = .ok (.lmul, 1) := by decide +kernel
theorem dX8_digest_32 : decode cX8_digest 32 = .ok (.aload_n 0, 1) := by decide +kernel
theorem dX8_digest_33 : decode cX8_digest 33 = .ok (.iload_n 3, 1) := by decide +kernel
theorem dX8_digest_34 : decode cX8_digest 34 = .ok (.iload 4, 2) := by decide +kernel
theorem dX8_digest_36 : decode cX8_digest 36 = .ok (.invokevirtual 230, 3) := by decide +kernel
theorem dX8_digest_39 : decode cX8_digest 39 = .ok (.i2l, 1) := by decide +kernel
theorem dX8_digest_40 : decode cX8_digest 40 = .ok (.ladd, 1) := by decide +kernel
theorem dX8_digest_41 : decode cX8_digest 41 = .ok (.lstore_n 1, 1) := by decide +kernel
theorem dX8_digest_42 : decode cX8_digest 42 = .ok (.iinc 4 1, 3) := by decide +kernel
theorem dX8_digest_45 : decode cX8_digest 45 = .ok (.goto (-25), 3) := by decide +kernel
theorem dX8_digest_48 : decode cX8_digest 48 = .ok (.ldc2_w 228, 3) := by decide +kernel
theorem dX8_digest_51 : decode cX8_digest 51 = .ok (.lload_n 1, 1) := by decide +kernel
theorem dX8_digest_52 : decode cX8_digest 52 = .ok (.lmul, 1) := by decide +kernel
theorem dX8_digest_53 : decode cX8_digest 53 = .ok (.aload_n 0, 1) := by decide +kernel
theorem dX8_digest_54 : decode cX8_digest 54 = .ok (.getfield 55, 3) := by decide +kernel
theorem dX8_digest_57 : decode cX8_digest 57 = .ok (.aload_n 0, 1) := by decide +kernel
theorem dX8_digest_58 : decode cX8_digest 58 = .ok (.getfield 26, 3) := by decide +kernel
theorem dX8_digest_61 : decode cX8_digest 61 = .ok (.iload_n 3, 1) := by decide +kernel
theorem dX8_digest_62 : decode cX8_digest 62 = .ok (.invokevirtual 184, 3) := by decide +kernel
theorem dX8_digest_65 : decode cX8_digest 65 = .ok (.i2l, 1) := by decide +kernel
theorem dX8_digest_66 : decode cX8_digest 66 = .ok (.ladd, 1) := by decide +kernel
theorem dX8_digest_67 : decode cX8_digest 67 = .ok (.lstore_n 1, 1) := by decide +kernel
theorem dX8_digest_68 : decode cX8_digest 68 = .ok (.ldc2_w 228, 3) := by decide +kernel
theorem dX8_digest_71 : decode cX8_digest 71 = .ok (.lload_n 1, 1) := by decide +kernel
theorem dX8_digest_72 : decode cX8_digest 72 = .ok (.lmul, 1) := by decide +kernel
theorem dX8_digest_73 : decode cX8_digest 73 = .ok (.aload_n 0, 1) := by decide +kernel
theorem dX8_digest_74 : decode cX8_digest 74 = .ok (.getfield 55, 3) := by decide +kernel
theorem dX8_digest_77 : decode cX8_digest 77 = .ok (.aload_n 0, 1) := by decide +kernel
theorem dX8_digest_78 : decode cX8_digest 78 = .ok (.getfield 26, 3) := by decide +kernel
theorem dX8_digest_81 : decode cX8_digest 81 = .ok (.iload_n 3, 1) := by decide +kernel
theorem dX8_digest_82 : decode cX8_digest 82 = .ok (.invokevirtual 187, 3) := by decide +kernel
theorem dX8_digest_85 : decode cX8_digest 85 = .ok (.i2l, 1) := by decide +kernel
theorem dX8_digest_86 : decode cX8_digest 86 = .ok (.ladd, 1) := by decide +kernel
theorem dX8_digest_87 : decode cX8_digest 87 = .ok (.lstore_n 1, 1) := by decide +kernel
theorem dX8_digest_88 : decode cX8_digest 88 = .ok (.iinc 3 1, 3) := by decide +kernel
theorem dX8_digest_91 : decode cX8_digest 91 = .ok (.goto (-85), 3) := by decide +kernel
theorem dX8_digest_94 : decode cX8_digest 94 = .ok (.aload_n 0, 1) := by decide +kernel
theorem dX8_digest_95 : decode cX8_digest 95 = .ok (.getfield 26, 3) := by decide +kernel
theorem dX8_digest_98 : decode cX8_digest 98 = .ok (.getfield 102, 3) := by decide +kernel
theorem dX8_digest_101 : decode cX8_digest 101 = .ok (.ifCond .le 29, 3) := by decide +kernel
theorem dX8_digest_104 : decode cX8_digest 104 = .ok (.iconst 0, 1) := by decide +kernel
theorem dX8_digest_105 : decode cX8_digest 105 = .ok (.istore_n 3, 1) := by decide +kernel
theorem dX8_digest_106 : decode cX8_digest 106 = .ok (.iload_n 3, 1) := by decide +kernel
theorem dX8_digest_107 : decode cX8_digest 107 = .ok (.iconst 3, 1) := by decide +kernel
theorem dX8_digest_108 : decode cX8_digest 108 = .ok (.if_icmp .ge 22, 3) := by decide +kernel
theorem dX8_digest_111 : decode cX8_digest 111 = .ok (.ldc2_w 228, 3) := by decide +kernel
theorem dX8_digest_114 : decode cX8_digest 114 = .ok (.lload_n 1, 1) := by decide +kernel
theorem dX8_digest_115 : decode cX8_digest 115 = .ok (.lmul, 1) := by decide +kernel
theorem dX8_digest_116 : decode cX8_digest 116 = .ok (.aload_n 0, 1) := by decide +kernel
theorem dX8_digest_117 : decode cX8_digest 117 = .ok (.iload_n 3, 1) := by decide +kernel
theorem dX8_digest_118 : decode cX8_digest 118 = .ok (.invokevirtual 233, 3) := by decide +kernel
theorem dX8_digest_121 : decode cX8_digest 121 = .ok (.i2l, 1) := by decide +kernel
theorem dX8_digest_122 : decode cX8_digest 122 = .ok (.ladd, 1) := by decide +kernel
theorem dX8_digest_123 : decode cX8_digest 123 = .ok (.lstore_n 1, 1) := by decide +kernel
theorem dX8_digest_124 : decode cX8_digest 124 = .ok (.iinc 3 1, 3) := by decide +kernel
theorem dX8_digest_127 : decode cX8_digest 127 = .ok (.goto (-21), 3) := by decide +kernel
theorem dX8_digest_130 : decode cX8_digest 130 = .ok (.iconst 0, 1) := by decide +kernel
theorem dX8_digest_131 : decode cX8_digest 131 = .ok (.istore_n 3, 1) := by decide +kernel
theorem dX8_digest_132 : decode cX8_digest 132 = .ok (.iload_n 3, 1) := by decide +kernel
theorem dX8_digest_133 : decode cX8_digest 133 = .ok (.aload_n 0, 1) := by decide +kernel
theorem dX8_digest_134 : decode cX8_digest 134 = .ok (.getfield 10, 3) := by decide +kernel
theorem dX8_digest_137 : decode cX8_digest 137 = .ok (.getfield 70, 3) := by decide +kernel
theorem dX8_digest_140 : decode cX8_digest 140 = .ok (.if_icmp .ge 26, 3) := by decide +kernel
theorem dX8_digest_143 : decode cX8_digest 143 = .ok (.ldc2_w 228, 3) := by decide +kernel
theorem dX8_digest_146 : decode cX8_digest 146 = .ok (.lload_n 1, 1) := by decide +kernel
theorem dX8_digest_147 : decode cX8_digest 147 = .ok (.lmul, 1) := by decide +kernel
theorem dX8_digest_148 : decode cX8_digest 148 = .ok (.aload_n 0, 1) := by decide +kernel
theorem dX8_digest_149 : decode cX8_digest 149 = .ok (.getfield 10, 3) := by decide +kernel
theorem dX8_digest_152 : decode cX8_digest 152 = .ok (.getfield 236, 3) := by decide +kernel
theorem dX8_digest_155 : decode cX8_digest 155 = .ok (.iload_n 3, 1) := by decide +kernel
theorem dX8_digest_156 : decode cX8_digest 156 = .ok (.iaload, 1) := by decide +kernel
theorem dX8_digest_157 : decode cX8_digest 157 = .ok (.i2l, 1) := by decide +kernel
theorem dX8_digest_158 : decode cX8_digest 158 = .ok (.ladd, 1) := by decide +kernel
theorem dX8_digest_159 : decode cX8_digest 159 = .ok (.lstore_n 1, 1) := by decide +kernel
theorem dX8_digest_160 : decode cX8_digest 160 = .ok (.iinc 3 1, 3) := by decide +kernel
theorem dX8_digest_163 : decode cX8_digest 163 = .ok (.goto (-31), 3) := by decide +kernel
theorem dX8_digest_166 : decode cX8_digest 166 = .ok (.iconst 0, 1) := by decide +kernel
theorem dX8_digest_167 : decode cX8_digest 167 = .ok (.istore_n 3, 1) := by decide +kernel
theorem dX8_digest_168 : decode cX8_digest 168 = .ok (.iload_n 3, 1) := by decide +kernel
theorem dX8_digest_169 : decode cX8_digest 169 = .ok (.bipush 7, 2) := by decide +kernel
theorem dX8_digest_171 : decode cX8_digest 171 = .ok (.if_icmp .ge 22, 3) := by decide +kernel
theorem dX8_digest_174 : decode cX8_digest 174 = .ok (.ldc2_w 228, 3) := by decide +kernel
theorem dX8_digest_177 : decode cX8_digest 177 = .ok (.lload_n 1, 1) := by decide +kernel
theorem dX8_digest_178 : decode cX8_digest 178 = .ok (.lmul, 1) := by decide +kernel
theorem dX8_digest_179 : decode cX8_digest 179 = .ok (.aload_n 0, 1) := by decide +kernel
theorem dX8_digest_180 : decode cX8_digest 180 = .ok (.iload_n 3, 1) := by decide +kernel
theorem dX8_digest_181 : decode cX8_digest 181 = .ok (.invokevirtual 239, 3) := by decide +kernel
theorem dX8_digest_184 : decode cX8_digest 184 = .ok (.i2l, 1) := by decide +kernel
theorem dX8_digest_185 : decode cX8_digest 185 = .ok (.ladd, 1) := by decide +kernel
theorem dX8_digest_186 : decode cX8_digest 186 = .ok (.lstore_n 1, 1) := by decide +kernel
theorem dX8_digest_187 : decode cX8_digest 187 = .ok (.iinc 3 1, 3) := by decide +kernel
theorem dX8_digest_190 : decode cX8_digest 190 = .ok (.goto (-22), 3) := by decide +kernel
theorem dX8_digest_193 : decode cX8_digest 193 = .ok (.lload_n 1, 1) := by decide +kernel
theorem dX8_digest_194 : decode cX8_digest 194 = .ok (.lreturn, 1) := by decide +kernel
theorem dX8_isPedal_0 : decode cX8_isPedal 0 = .ok (.iload_n 0, 1) := by decide +kernel
theorem dX8_isPedal_1 : decode cX8_isPedal 1 = .ok (.ifCond .lt 13, 3) := by decide +kernel
theorem dX8_isPedal_4 : decode cX8_isPedal 4 = .ok (.iload_n 0, 1) := by decide +kernel
theorem dX8_isPedal_5 : decode cX8_isPedal 5 = .ok (.bipush 7, 2) := by decide +kernel
theorem dX8_isPedal_7 : decode cX8_isPedal 7 = .ok (.if_icmp .ge 7, 3) := by decide +kernel
theorem dX8_isPedal_10 : decode cX8_isPedal 10 = .ok (.iconst 1, 1) := by decide +kernel
theorem dX8_isPedal_11 : decode cX8_isPedal 11 = .ok (.goto 4, 3) := by decide +kernel
theorem dX8_isPedal_14 : decode cX8_isPedal 14 = .ok (.iconst 0, 1) := by decide +kernel
theorem dX8_isPedal_15 : decode cX8_isPedal 15 = .ok (.ireturn, 1) := by decide +kernel
theorem dX8_isPosition_0 : decode cX8_isPosition 0 = .ok (.iload_n 0, 1) := by decide +kernel
theorem dX8_isPosition_1 : decode cX8_isPosition 1 = .ok (.ifCond .lt 12, 3) := by decide +kernel
theorem dX8_isPosition_4 : decode cX8_isPosition 4 = .ok (.iload_n 0, 1) := by decide +kernel
theorem dX8_isPosition_5 : decode cX8_isPosition 5 = .ok (.iconst 3, 1) := by decide +kernel
theorem dX8_isPosition_6 : decode cX8_isPosition 6 = .ok (.if_icmp .ge 7, 3) := by decide +kernel
theorem dX8_isPosition_9 : decode cX8_isPosition 9 = .ok (.iconst 1, 1) := by decide +kernel
theorem dX8_isPosition_10 : decode cX8_isPosition 10 = .ok (.goto 4, 3) := by decide +kernel
theorem dX8_isPosition_13 : decode cX8_isPosition 13 = .ok (.iconst 0, 1) := by decide +kernel
theorem dX8_isPosition_14 : decode cX8_isPosition 14 = .ok (.ireturn, 1) := by decide +kernel
theorem dX8_isKind_0 : decode cX8_isKind 0 = .ok (.iload_n 0, 1) := by decide +kernel
theorem dX8_isKind_1 : decode cX8_isKind 1 = .ok (.ifCond .lt 12, 3) := by decide +kernel
theorem dX8_isKind_4 : decode cX8_isKind 4 = .ok (.iload_n 0, 1) := by decide +kernel
theorem dX8_isKind_5 : decode cX8_isKind 5 = .ok (.iconst 5, 1) := by decide +kernel
theorem dX8_isKind_6 : decode cX8_isKind 6 = .ok (.if_icmp .ge 7, 3) := by decide +kernel
theorem dX8_isKind_9 : decode cX8_isKind 9 = .ok (.iconst 1, 1) := by decide +kernel
theorem dX8_isKind_10 : decode cX8_isKind 10 = .ok (.goto 4, 3) := by decide +kernel
theorem dX8_isKind_13 : decode cX8_isKind 13 = .ok (.iconst 0, 1) := by decide +kernel
theorem dX8_isKind_14 : decode cX8_isKind 14 = .ok (.ireturn, 1) := by decide +kernel
theorem dX8_isShift_0 : decode cX8_isShift 0 = .ok (.iload_n 0, 1) := by decide +kernel
theorem dX8_isShift_1 : decode cX8_isShift 1 = .ok (.ifCond .lt 13, 3) := by decide +kernel
theorem dX8_isShift_4 : decode cX8_isShift 4 = .ok (.iload_n 0, 1) := by decide +kernel
theorem dX8_isShift_5 : decode cX8_isShift 5 = .ok (.bipush 12, 2) := by decide +kernel
theorem dX8_isShift_7 : decode cX8_isShift 7 = .ok (.if_icmp .ge 7, 3) := by decide +kernel
theorem dX8_isShift_10 : decode cX8_isShift 10 = .ok (.iconst 1, 1) := by decide +kernel
theorem dX8_isShift_11 : decode cX8_isShift 11 = .ok (.goto 4, 3) := by decide +kernel
theorem dX8_isShift_14 : decode cX8_isShift 14 = .ok (.iconst 0, 1) := by decide +kernel
theorem dX8_isShift_15 : decode cX8_isShift 15 = .ok (.ireturn, 1) := by decide +kernel
set_option maxRecDepth 20000 in
theorem ggX8_areTones_J6_bitCount_0f7a4 : GoodIn wsX8_areTones wsJ6_bitCount_0f7a4 := goodIn_r _ [4, 5, 6, 7] (by decide +kernel) (by decide +kernel)
set_option maxRecDepth 20000 in
theorem gX8_areTones_J6_bitCount_0f7a4 : GoodIn wsX8_areTones (va_wsS RX8 221 yJ6_bitCount_0f7a4 wsJ6_bitCount_0f7a4) := goodIn_app (goodIn_of _ (by decide +kernel)) ggX8_areTones_J6_bitCount_0f7a4
theorem dX8_areTones_0 : decode cX8_areTones 0 = .ok (.iload_n 0, 1) := by decide +kernel
theorem dX8_areTones_1 : decode cX8_areTones 1 = .ok (.ifCond .le 22, 3) := by decide +kernel
theorem dX8_areTones_4 : decode cX8_areTones 4 = .ok (.iload_n 0, 1) := by decide +kernel
theorem dX8_areTones_5 : decode cX8_areTones 5 = .ok (.sipush 4095, 3) := by decide +kernel
theorem dX8_areTones_8 : decode cX8_areTones 8 = .ok (.if_icmp .gt 15, 3) := by decide +kernel
theorem dX8_areTones_11 : decode cX8_areTones 11 = .ok (.iload_n 0, 1) := by decide +kernel
theorem dX8_areTones_12 : decode cX8_areTones 12 = .ok (.invokestatic 221, 3) := by decide +kernel
theorem dX8_areTones_15 : decode cX8_areTones 15 = .ok (.iconst 4, 1) := by decide +kernel
theorem dX8_areTones_16 : decode cX8_areTones 16 = .ok (.if_icmp .gt 7, 3) := by decide +kernel
theorem dX8_areTones_19 : decode cX8_areTones 19 = .ok (.iconst 1, 1) := by decide +kernel
theorem dX8_areTones_20 : decode cX8_areTones 20 = .ok (.goto 4, 3) := by decide +kernel
theorem dX8_areTones_23 : decode cX8_areTones 23 = .ok (.iconst 0, 1) := by decide +kernel
theorem dX8_areTones_24 : decode cX8_areTones 24 = .ok (.ireturn, 1) := by decide +kernel
theorem dX8_isHeld_0 : decode cX8_isHeld 0 = .ok (.iload_n 0, 1) := by decide +kernel
theorem dX8_isHeld_1 : decode cX8_isHeld 1 = .ok (.iconst 2, 1) := by decide +kernel
theorem dX8_isHeld_2 : decode cX8_isHeld 2 = .ok (.if_icmp .eq 8, 3) := by decide +kernel
theorem dX8_isHeld_5 : decode cX8_isHeld 5 = .ok (.iload_n 0, 1) := by decide +kernel
theorem dX8_isHeld_6 : decode cX8_isHeld 6 = .ok (.iconst 4, 1) := by decide +kernel
theorem dX8_isHeld_7 : decode cX8_isHeld 7 = .ok (.if_icmp .ne 7, 3) := by decide +kernel
theorem dX8_isHeld_10 : decode cX8_isHeld 10 = .ok (.iconst 1, 1) := by decide +kernel
theorem dX8_isHeld_11 : decode cX8_isHeld 11 = .ok (.goto 4, 3) := by decide +kernel
theorem dX8_isHeld_14 : decode cX8_isHeld 14 = .ok (.iconst 0, 1) := by decide +kernel
theorem dX8_isHeld_15 : decode cX8_isHeld 15 = .ok (.ireturn, 1) := by decide +kernel
theorem dX8_raised_0 : decode cX8_raised 0 = .ok (.iload_n 0, 1) := by decide +kernel
theorem dX8_raised_1 : decode cX8_raised 1 = .ok (.iload_n 1, 1) := by decide +kernel
theorem dX8_raised_2 : decode cX8_raised 2 = .ok (.ishl, 1) := by decide +kernel
theorem dX8_raised_3 : decode cX8_raised 3 = .ok (.iload_n 0, 1) := by decide +kernel
theorem dX8_raised_4 : decode cX8_raised 4 = .ok (.bipush 12, 2) := by decide +kernel
theorem dX8_raised_6 : decode cX8_raised 6 = .ok (.iload_n 1, 1) := by decide +kernel
theorem dX8_raised_7 : decode cX8_raised 7 = .ok (.isub, 1) := by decide +kernel
theorem dX8_raised_8 : decode cX8_raised 8 = .ok (.ishr, 1) := by decide +kernel
theorem dX8_raised_9 : decode cX8_raised 9 = .ok (.ior, 1) := by decide +kernel
theorem dX8_raised_10 : decode cX8_raised 10 = .ok (.sipush 4095, 3) := by decide +kernel
theorem dX8_raised_13 : decode cX8_raised 13 = .ok (.iand, 1) := by decide +kernel
theorem dX8_raised_14 : decode cX8_raised 14 = .ok (.ireturn, 1) := by decide +kernel
