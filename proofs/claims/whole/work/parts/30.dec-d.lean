theorem dX9_freshen_116 : decode cX9_freshen 116 = .ok (.getfield 62, 3) := by decide +kernel
theorem dX9_freshen_119 : decode cX9_freshen 119 = .ok (.iload_n 3, 1) := by decide +kernel
theorem dX9_freshen_120 : decode cX9_freshen 120 = .ok (.iaload, 1) := by decide +kernel
theorem dX9_freshen_121 : decode cX9_freshen 121 = .ok (.ldc 188, 2) := by decide +kernel
theorem dX9_freshen_123 : decode cX9_freshen 123 = .ok (.if_icmp .ge 25, 3) := by decide +kernel
theorem dX9_freshen_126 : decode cX9_freshen 126 = .ok (.aload_n 0, 1) := by decide +kernel
theorem dX9_freshen_127 : decode cX9_freshen 127 = .ok (.getfield 62, 3) := by decide +kernel
theorem dX9_freshen_130 : decode cX9_freshen 130 = .ok (.iload_n 3, 1) := by decide +kernel
theorem dX9_freshen_131 : decode cX9_freshen 131 = .ok (.iaload, 1) := by decide +kernel
theorem dX9_freshen_132 : decode cX9_freshen 132 = .ok (.aload_n 0, 1) := by decide +kernel
theorem dX9_freshen_133 : decode cX9_freshen 133 = .ok (.getfield 210, 3) := by decide +kernel
theorem dX9_freshen_136 : decode cX9_freshen 136 = .ok (.if_icmp .ne 12, 3) := by decide +kernel
theorem dX9_freshen_139 : decode cX9_freshen 139 = .ok (.aload_n 0, 1) := by decide +kernel
theorem dX9_freshen_140 : decode cX9_freshen 140 = .ok (.getfield 65, 3) := by decide +kernel
theorem dX9_freshen_143 : decode cX9_freshen 143 = .ok (.iload_n 3, 1) := by decide +kernel
theorem dX9_freshen_144 : decode cX9_freshen 144 = .ok (.iaload, 1) := by decide +kernel
theorem dX9_freshen_145 : decode cX9_freshen 145 = .ok (.goto 4, 3) := by decide +kernel
theorem dX9_freshen_148 : decode cX9_freshen 148 = .ok (.iconst 0, 1) := by decide +kernel
theorem dX9_freshen_149 : decode cX9_freshen 149 = .ok (.iadd, 1) := by decide +kernel
theorem dX9_freshen_150 : decode cX9_freshen 150 = .ok (.putfield 219, 3) := by decide +kernel
theorem dX9_freshen_153 : decode cX9_freshen 153 = .ok (.aload_n 0, 1) := by decide +kernel
theorem dX9_freshen_154 : decode cX9_freshen 154 = .ok (.dup, 1) := by decide +kernel
theorem dX9_freshen_155 : decode cX9_freshen 155 = .ok (.getfield 219, 3) := by decide +kernel
theorem dX9_freshen_158 : decode cX9_freshen 158 = .ok (.ldc 205, 2) := by decide +kernel
theorem dX9_freshen_160 : decode cX9_freshen 160 = .ok (.irem, 1) := by decide +kernel
theorem dX9_freshen_161 : decode cX9_freshen 161 = .ok (.putfield 219, 3) := by decide +kernel
theorem dX9_freshen_164 : decode cX9_freshen 164 = .ok (.iinc 2 1, 3) := by decide +kernel
theorem dX9_freshen_167 : decode cX9_freshen 167 = .ok (.goto (-107), 3) := by decide +kernel
theorem dX9_freshen_170 : decode cX9_freshen 170 = .ok (.aload_n 0, 1) := by decide +kernel
theorem dX9_freshen_171 : decode cX9_freshen 171 = .ok (.aload_n 0, 1) := by decide +kernel
theorem dX9_freshen_172 : decode cX9_freshen 172 = .ok (.getfield 222, 3) := by decide +kernel
theorem dX9_freshen_175 : decode cX9_freshen 175 = .ok (.iconst (-1), 1) := by decide +kernel
theorem dX9_freshen_176 : decode cX9_freshen 176 = .ok (.if_icmp .ne 16, 3) := by decide +kernel
theorem dX9_freshen_179 : decode cX9_freshen 179 = .ok (.aload_n 0, 1) := by decide +kernel
theorem dX9_freshen_180 : decode cX9_freshen 180 = .ok (.getfield 71, 3) := by decide +kernel
theorem dX9_freshen_183 : decode cX9_freshen 183 = .ok (.iload_n 1, 1) := by decide +kernel
theorem dX9_freshen_184 : decode cX9_freshen 184 = .ok (.iaload, 1) := by decide +kernel
theorem dX9_freshen_185 : decode cX9_freshen 185 = .ok (.ifCond .ne 7, 3) := by decide +kernel
theorem dX9_freshen_188 : decode cX9_freshen 188 = .ok (.iload_n 1, 1) := by decide +kernel
theorem dX9_freshen_189 : decode cX9_freshen 189 = .ok (.goto 7, 3) := by decide +kernel
theorem dX9_freshen_192 : decode cX9_freshen 192 = .ok (.aload_n 0, 1) := by decide +kernel
theorem dX9_freshen_193 : decode cX9_freshen 193 = .ok (.getfield 222, 3) := by decide +kernel
theorem dX9_freshen_196 : decode cX9_freshen 196 = .ok (.putfield 222, 3) := by decide +kernel
theorem dX9_freshen_199 : decode cX9_freshen 199 = .ok (.iinc 1 1, 3) := by decide +kernel
theorem dX9_freshen_202 : decode cX9_freshen 202 = .ok (.goto (-159), 3) := by decide +kernel
theorem dX9_freshen_205 : decode cX9_freshen 205 = .ok (.aload_n 0, 1) := by decide +kernel
theorem dX9_freshen_206 : decode cX9_freshen 206 = .ok (.invokevirtual 225, 3) := by decide +kernel
theorem dX9_freshen_209 : decode cX9_freshen 209 = .ok (.aload_n 0, 1) := by decide +kernel
theorem dX9_freshen_210 : decode cX9_freshen 210 = .ok (.iconst 0, 1) := by decide +kernel
theorem dX9_freshen_211 : decode cX9_freshen 211 = .ok (.putfield 168, 3) := by decide +kernel
theorem dX9_freshen_214 : decode cX9_freshen 214 = .ok (.return_, 1) := by decide +kernel
set_option maxRecDepth 20000 in
theorem ggX9_planOf_X9_freshen : GoodIn wsX9_planOf wsX9_freshen := goodIn_r _ [9, 10, 11, 1, 3, 4, 12, 13, 14, 2, 15, 16, 17, 18, 19, 8, 20, 21, 22, 23, 24, 25, 26, 27, 28, 29, 30, 31, 32, 33, 34, 35, 36, 37, 38, 39, 40, 41, 42, 43, 44, 45, 46, 47, 48, 49, 50, 51, 52, 53, 54, 55, 56, 57, 58, 59, 60, 61, 62, 63, 64, 65, 66, 67, 68, 69, 70, 71, 72, 73, 74, 75, 76, 77, 78, 79, 80, 81, 82, 83, 84, 85, 86, 87, 88, 89, 90, 91, 92, 93, 94, 95, 96, 97, 98, 99, 100, 101, 102, 103, 104, 105, 106, 107, 108, 109, 110, 111, 112, 113, 114, 115, 116, 117, 118, 119, 120, 121, 122, 123, 124, 125, 126, 127, 128] (by decide +kernel) (by decide +kernel)
set_option maxRecDepth 20000 in
theorem gX9_planOf_X9_freshen : GoodIn wsX9_planOf (wsV RX9 228 RX9 yX9_freshen wsX9_freshen) := goodIn_app (goodIn_of _ (by decide +kernel)) ggX9_planOf_X9_freshen
theorem dX9_planOf_0 : decode cX9_planOf 0 = .ok (.aload_n 0, 1) := by decide +kernel
theorem dX9_planOf_1 : decode cX9_planOf 1 = .ok (.invokevirtual 228, 3) := by decide +kernel
theorem dX9_planOf_4 : decode cX9_planOf 4 = .ok (.iload_n 1, 1) := by decide +kernel
theorem dX9_planOf_5 : decode cX9_planOf 5 = .ok (.ifCond .ne 23, 3) := by decide +kernel
theorem dX9_planOf_8 : decode cX9_planOf 8 = .ok (.aload_n 0, 1) := by decide +kernel
theorem dX9_planOf_9 : decode cX9_planOf 9 = .ok (.getfield 210, 3) := by decide +kernel
theorem dX9_planOf_12 : decode cX9_planOf 12 = .ok (.ldc 188, 2) := by decide +kernel
theorem dX9_planOf_14 : decode cX9_planOf 14 = .ok (.if_icmp .ge 10, 3) := by decide +kernel
theorem dX9_planOf_17 : decode cX9_planOf 17 = .ok (.aload_n 0, 1) := by decide +kernel
theorem dX9_planOf_18 : decode cX9_planOf 18 = .ok (.getfield 210, 3) := by decide +kernel
theorem dX9_planOf_21 : decode cX9_planOf 21 = .ok (.goto 23, 3) := by decide +kernel
theorem dX9_planOf_24 : decode cX9_planOf 24 = .ok (.iconst (-1), 1) := by decide +kernel
theorem dX9_planOf_25 : decode cX9_planOf 25 = .ok (.goto 19, 3) := by decide +kernel
theorem dX9_planOf_28 : decode cX9_planOf 28 = .ok (.iload_n 1, 1) := by decide +kernel
theorem dX9_planOf_29 : decode cX9_planOf 29 = .ok (.iconst 1, 1) := by decide +kernel
theorem dX9_planOf_30 : decode cX9_planOf 30 = .ok (.if_icmp .ne 10, 3) := by decide +kernel
theorem dX9_planOf_33 : decode cX9_planOf 33 = .ok (.aload_n 0, 1) := by decide +kernel
theorem dX9_planOf_34 : decode cX9_planOf 34 = .ok (.getfield 219, 3) := by decide +kernel
theorem dX9_planOf_37 : decode cX9_planOf 37 = .ok (.goto 7, 3) := by decide +kernel
theorem dX9_planOf_40 : decode cX9_planOf 40 = .ok (.aload_n 0, 1) := by decide +kernel
theorem dX9_planOf_41 : decode cX9_planOf 41 = .ok (.getfield 222, 3) := by decide +kernel
theorem dX9_planOf_44 : decode cX9_planOf 44 = .ok (.ireturn, 1) := by decide +kernel
set_option maxRecDepth 20000 in
theorem ggX9_plan_X9_in : GoodIn wsX9_plan wsX9_in := goodIn_r _ [5] (by decide +kernel) (by decide +kernel)
set_option maxRecDepth 20000 in
theorem gX9_plan_X9_in : GoodIn wsX9_plan (va_wsS RX9 102 yX9_in wsX9_in) := goodIn_app (goodIn_of _ (by decide +kernel)) ggX9_plan_X9_in
set_option maxRecDepth 20000 in
theorem ggX9_plan_X9_lacks : GoodIn wsX9_plan wsX9_lacks := goodIn_r _ [9, 10, 97, 98, 99, 100, 101, 102, 103, 104, 105, 106, 107, 108, 109, 110, 111, 112, 113, 114, 115, 116, 117, 118, 119, 120, 121, 122, 123, 124, 125, 126, 127, 128, 129, 130, 131, 132, 133, 134, 135, 136, 137, 138, 139, 140] (by decide +kernel) (by decide +kernel)
set_option maxRecDepth 20000 in
theorem gX9_plan_X9_lacks : GoodIn wsX9_plan (wsV RX9 231 RX9 yX9_lacks wsX9_lacks) := goodIn_app (goodIn_of _ (by decide +kernel)) ggX9_plan_X9_lacks
set_option maxRecDepth 20000 in
theorem ggX9_plan_X9_planOf : GoodIn wsX9_plan wsX9_planOf := goodIn_r _ [14, 15, 16, 17, 18, 19, 20, 21, 4, 22, 23, 24, 10, 25, 26, 27, 28, 29, 30, 31, 32, 33, 34, 35, 36, 37, 38, 39, 40, 41, 42, 43, 44, 45, 46, 47, 48, 49, 50, 51, 52, 53, 54, 55, 56, 57, 58, 59, 60, 61, 62, 63, 64, 65, 66, 67, 68, 69, 70, 71, 72, 73, 74, 75, 76, 77, 78, 79, 80, 81, 82, 83, 84, 85, 86, 87, 88, 89, 90, 91, 92, 93, 94, 95, 96, 97, 98, 99, 100, 101, 102, 103, 104, 105, 106, 107, 108, 109, 110, 111, 112, 113, 114, 115, 116, 117, 118, 119, 120, 121, 122, 123, 124, 125, 126, 127, 128, 129, 130, 131, 132, 133, 134, 135, 136, 137, 138, 139, 140] (by decide +kernel) (by decide +kernel)
set_option maxRecDepth 20000 in
theorem gX9_plan_X9_planOf : GoodIn wsX9_plan (wsV RX9 235 RX9 yX9_planOf wsX9_planOf) := goodIn_app (goodIn_of _ (by decide +kernel)) ggX9_plan_X9_planOf
theorem dX9_plan_0 : decode cX9_plan 0 = .ok (.iload_n 1, 1) := by decide +kernel
theorem dX9_plan_1 : decode cX9_plan 1 = .ok (.i2l, 1) := by decide +kernel
theorem dX9_plan_2 : decode cX9_plan 2 = .ok (.lconst 0, 1) := by decide +kernel
theorem dX9_plan_3 : decode cX9_plan 3 = .ok (.ldc2_w 106, 3) := by decide +kernel
theorem dX9_plan_6 : decode cX9_plan 6 = .ok (.invokestatic 102, 3) := by decide +kernel
theorem dX9_plan_9 : decode cX9_plan 9 = .ok (.ifCond .ne 6, 3) := by decide +kernel
theorem dX9_plan_12 : decode cX9_plan 12 = .ok (.bipush (-102), 2) := by decide +kernel
theorem dX9_plan_14 : decode cX9_plan 14 = .ok (.ireturn, 1) := by decide +kernel
theorem dX9_plan_15 : decode cX9_plan 15 = .ok (.aload_n 0, 1) := by decide +kernel
theorem dX9_plan_16 : decode cX9_plan 16 = .ok (.invokevirtual 231, 3) := by decide +kernel
theorem dX9_plan_19 : decode cX9_plan 19 = .ok (.ifCond .eq 8, 3) := by decide +kernel
theorem dX9_plan_22 : decode cX9_plan 22 = .ok (.bipush (-103), 2) := by decide +kernel
theorem dX9_plan_24 : decode cX9_plan 24 = .ok (.goto 8, 3) := by decide +kernel
theorem dX9_plan_27 : decode cX9_plan 27 = .ok (.aload_n 0, 1) := by decide +kernel
theorem dX9_plan_28 : decode cX9_plan 28 = .ok (.iload_n 1, 1) := by decide +kernel
theorem dX9_plan_29 : decode cX9_plan 29 = .ok (.invokevirtual 235, 3) := by decide +kernel
theorem dX9_plan_32 : decode cX9_plan 32 = .ok (.ireturn, 1) := by decide +kernel
set_option maxRecDepth 20000 in
theorem ggX9_settingOf_X9_freshen : GoodIn wsX9_settingOf wsX9_freshen := goodIn_r _ [6, 7, 8, 9, 10, 11, 12, 13, 14, 15, 16, 17, 18, 19, 20, 5, 21, 22, 23, 24, 25, 26, 27, 28, 29, 30, 31, 32, 33, 34, 35, 36, 37, 38, 39, 40, 41, 42, 43, 44, 45, 46, 47, 48, 49, 50, 51, 52, 53, 54, 55, 56, 57, 58, 59, 60, 61, 62, 63, 64, 65, 66, 67, 68, 69, 70, 71, 72, 73, 74, 75, 76, 77, 78, 79, 80, 81, 82, 83, 84, 1, 94, 95, 96, 97, 98, 99, 100, 101, 102, 103, 104, 105, 106, 107, 108, 109, 110, 111, 112, 113, 114, 115, 116, 117, 118, 119, 120, 121, 122, 123, 124, 125, 126, 127, 128, 129, 130, 131, 132, 133, 134, 135, 136, 137] (by decide +kernel) (by decide +kernel)
set_option maxRecDepth 20000 in
theorem gX9_settingOf_X9_freshen : GoodIn wsX9_settingOf (wsV RX9 228 RX9 yX9_freshen wsX9_freshen) := goodIn_app (goodIn_of _ (by decide +kernel)) ggX9_settingOf_X9_freshen
set_option maxRecDepth 20000 in
theorem ggX9_settingOf_X9_told : GoodIn wsX9_settingOf wsX9_told := goodIn_r _ [88, 89, 90, 91, 5, 92, 93, 94, 95, 96, 97, 98, 99, 100, 101, 102, 103, 104, 105, 106, 107, 108, 109, 110, 111, 112, 113, 114, 115, 116, 117, 118, 119, 120, 121, 122, 123, 124, 125, 126, 127, 128, 129, 130, 131, 132, 133, 134, 135, 136, 137] (by decide +kernel) (by decide +kernel)
set_option maxRecDepth 20000 in
theorem gX9_settingOf_X9_told : GoodIn wsX9_settingOf (wsV RX9 238 RX9 yX9_told wsX9_told) := goodIn_app (goodIn_of _ (by decide +kernel)) ggX9_settingOf_X9_told
theorem dX9_settingOf_0 : decode cX9_settingOf 0 = .ok (.aload_n 0, 1) := by decide +kernel
theorem dX9_settingOf_1 : decode cX9_settingOf 1 = .ok (.invokevirtual 228, 3) := by decide +kernel
theorem dX9_settingOf_4 : decode cX9_settingOf 4 = .ok (.aload_n 0, 1) := by decide +kernel
theorem dX9_settingOf_5 : decode cX9_settingOf 5 = .ok (.getfield 68, 3) := by decide +kernel
theorem dX9_settingOf_8 : decode cX9_settingOf 8 = .ok (.iload_n 1, 1) := by decide +kernel
theorem dX9_settingOf_9 : decode cX9_settingOf 9 = .ok (.iaload, 1) := by decide +kernel
theorem dX9_settingOf_10 : decode cX9_settingOf 10 = .ok (.iconst (-1), 1) := by decide +kernel
theorem dX9_settingOf_11 : decode cX9_settingOf 11 = .ok (.if_icmp .ne 7, 3) := by decide +kernel
theorem dX9_settingOf_14 : decode cX9_settingOf 14 = .ok (.iconst (-1), 1) := by decide +kernel
theorem dX9_settingOf_15 : decode cX9_settingOf 15 = .ok (.goto 13, 3) := by decide +kernel
theorem dX9_settingOf_18 : decode cX9_settingOf 18 = .ok (.aload_n 0, 1) := by decide +kernel
theorem dX9_settingOf_19 : decode cX9_settingOf 19 = .ok (.aload_n 0, 1) := by decide +kernel
theorem dX9_settingOf_20 : decode cX9_settingOf 20 = .ok (.getfield 68, 3) := by decide +kernel
theorem dX9_settingOf_23 : decode cX9_settingOf 23 = .ok (.iload_n 1, 1) := by decide +kernel
theorem dX9_settingOf_24 : decode cX9_settingOf 24 = .ok (.iaload, 1) := by decide +kernel
theorem dX9_settingOf_25 : decode cX9_settingOf 25 = .ok (.invokevirtual 238, 3) := by decide +kernel
theorem dX9_settingOf_28 : decode cX9_settingOf 28 = .ok (.ireturn, 1) := by decide +kernel
set_option maxRecDepth 20000 in
theorem ggX9_setting_X9_isChord : GoodIn wsX9_setting wsX9_isChord := goodIn_r _ [5, 6, 7, 8, 4, 9, 105, 106, 107, 108, 109, 110, 111, 112, 113, 114, 115, 116, 117, 118, 119, 120, 121, 122, 123, 124, 125, 126, 127, 128, 129, 130, 131, 132, 133, 134, 135, 136, 137, 138, 139, 140, 141, 142, 143, 144, 145, 146, 147, 148] (by decide +kernel) (by decide +kernel)
set_option maxRecDepth 20000 in
theorem gX9_setting_X9_isChord : GoodIn wsX9_setting (wsV RX9 241 RX9 yX9_isChord wsX9_isChord) := goodIn_app (goodIn_of _ (by decide +kernel)) ggX9_setting_X9_isChord
set_option maxRecDepth 20000 in
theorem ggX9_setting_X9_settingOf : GoodIn wsX9_setting wsX9_settingOf := goodIn_r _ [13, 14, 15, 16, 17, 4, 18, 19, 20, 21, 22, 23, 6, 24, 25, 26, 27, 28, 29, 30, 31, 32, 33, 34, 35, 36, 37, 38, 39, 40, 41, 42, 43, 44, 45, 46, 47, 48, 49, 50, 51, 52, 53, 54, 55, 56, 57, 58, 59, 60, 61, 62, 63, 64, 65, 66, 67, 68, 69, 70, 71, 72, 73, 74, 75, 76, 77, 78, 79, 80, 81, 82, 83, 84, 85, 86, 87, 88, 89, 90, 91, 92, 93, 94, 95, 96, 97, 98, 99, 100, 101, 102, 103, 104, 105, 106, 107, 108, 109, 110, 111, 112, 113, 114, 115, 116, 117, 118, 119, 120, 121, 122, 123, 124, 125, 126, 127, 128, 129, 130, 131, 132, 133, 134, 135, 136, 137, 138, 139, 140, 141, 142, 143, 144, 145, 146, 147, 148] (by decide +kernel) (by decide +kernel)
set_option maxRecDepth 20000 in
theorem gX9_setting_X9_settingOf : GoodIn wsX9_setting (wsV RX9 244 RX9 yX9_settingOf wsX9_settingOf) := goodIn_app (goodIn_of _ (by decide +kernel)) ggX9_setting_X9_settingOf
theorem dX9_setting_0 : decode cX9_setting 0 = .ok (.aload_n 0, 1) := by decide +kernel
theorem dX9_setting_1 : decode cX9_setting 1 = .ok (.iload_n 1, 1) := by decide +kernel
theorem dX9_setting_2 : decode cX9_setting 2 = .ok (.invokevirtual 241, 3) := by decide +kernel
theorem dX9_setting_5 : decode cX9_setting 5 = .ok (.ifCond .eq 11, 3) := by decide +kernel
theorem dX9_setting_8 : decode cX9_setting 8 = .ok (.aload_n 0, 1) := by decide +kernel
theorem dX9_setting_9 : decode cX9_setting 9 = .ok (.iload_n 1, 1) := by decide +kernel
theorem dX9_setting_10 : decode cX9_setting 10 = .ok (.invokevirtual 244, 3) := by decide +kernel
theorem dX9_setting_13 : decode cX9_setting 13 = .ok (.goto 5, 3) := by decide +kernel
theorem dX9_setting_16 : decode cX9_setting 16 = .ok (.bipush (-101), 2) := by decide +kernel
theorem dX9_setting_18 : decode cX9_setting 18 = .ok (.ireturn, 1) := by decide +kernel
set_option maxRecDepth 20000 in
theorem ggX9_reachOf_X9_freshen : GoodIn wsX9_reachOf wsX9_freshen := goodIn_r _ [6, 7, 8, 9, 10, 11, 12, 1, 13, 14, 15, 16, 17, 18, 19, 5, 20, 21, 22, 23, 24, 25, 26, 27, 28, 29, 30, 31, 32, 33, 34, 35, 36, 37, 38, 39, 40, 41, 42, 43, 44, 45, 46, 47, 48, 49, 50, 51, 52, 53, 54, 55, 56, 57, 58, 59, 60, 61, 62, 63, 64, 65, 66, 67, 68, 69, 70, 71, 72, 73, 74, 75, 76, 77, 78, 79, 80, 81, 82, 83, 84, 85, 86, 87, 88, 89, 90, 91, 92, 93, 94, 95, 96, 97, 98, 99, 100, 101, 102, 103, 104, 105, 106, 107, 108, 109, 110, 111, 112, 113, 114, 115, 116, 117, 118, 119, 120, 121, 122, 123, 124, 125, 126, 127, 128] (by decide +kernel) (by decide +kernel)
set_option maxRecDepth 20000 in
theorem gX9_reachOf_X9_freshen : GoodIn wsX9_reachOf (wsV RX9 228 RX9 yX9_freshen wsX9_freshen) := goodIn_app (goodIn_of _ (by decide +kernel)) ggX9_reachOf_X9_freshen
theorem dX9_reachOf_0 : decode cX9_reachOf 0 = .ok (.aload_n 0, 1) := by decide +kernel
theorem dX9_reachOf_1 : decode cX9_reachOf 1 = .ok (.invokevirtual 228, 3) := by decide +kernel
theorem dX9_reachOf_4 : decode cX9_reachOf 4 = .ok (.aload_n 0, 1) := by decide +kernel
theorem dX9_reachOf_5 : decode cX9_reachOf 5 = .ok (.getfield 71, 3) := by decide +kernel
theorem dX9_reachOf_8 : decode cX9_reachOf 8 = .ok (.iload_n 1, 1) := by decide +kernel
theorem dX9_reachOf_9 : decode cX9_reachOf 9 = .ok (.iaload, 1) := by decide +kernel
theorem dX9_reachOf_10 : decode cX9_reachOf 10 = .ok (.ireturn, 1) := by decide +kernel
set_option maxRecDepth 20000 in
theorem ggX9_reach_X9_isChord : GoodIn wsX9_reach wsX9_isChord := goodIn_r _ [5, 6, 7, 8, 4, 9, 96, 97, 98, 99, 100, 101, 102, 103, 104, 105, 106, 107, 108, 109, 110, 111, 112, 113, 114, 115, 116, 117, 118, 119, 120, 121, 122, 123, 124, 125, 126, 127, 128, 129, 130, 131, 132, 133, 134, 135, 136, 137, 138, 139] (by decide +kernel) (by decide +kernel)
set_option maxRecDepth 20000 in
theorem gX9_reach_X9_isChord : GoodIn wsX9_reach (wsV RX9 241 RX9 yX9_isChord wsX9_isChord) := goodIn_app (goodIn_of _ (by decide +kernel)) ggX9_reach_X9_isChord
set_option maxRecDepth 20000 in
theorem ggX9_reach_X9_reachOf : GoodIn wsX9_reach wsX9_reachOf := goodIn_r _ [13, 14, 15, 16, 17, 4, 18, 19, 20, 21, 22, 23, 6, 24, 25, 26, 27, 28, 29, 30, 31, 32, 33, 34, 35, 36, 37, 38, 39, 40, 41, 42, 43, 44, 45, 46, 47, 48, 49, 50, 51, 52, 53, 54, 55, 56, 57, 58, 59, 60, 61, 62, 63, 64, 65, 66, 67, 68, 69, 70, 71, 72, 73, 74, 75, 76, 77, 78, 79, 80, 81, 82, 83, 84, 85, 86, 87, 88, 89, 90, 91, 92, 93, 94, 95, 96, 97, 98, 99, 100, 101, 102, 103, 104, 105, 106, 107, 108, 109, 110, 111, 112, 113, 114, 115, 116, 117, 118, 119, 120, 121, 122, 123, 124, 125, 126, 127, 128, 129, 130, 131, 132, 133, 134, 135, 136, 137, 138, 139] (by decide +kernel) (by decide +kernel)
set_option maxRecDepth 20000 in
theorem gX9_reach_X9_reachOf : GoodIn wsX9_reach (wsV RX9 247 RX9 yX9_reachOf wsX9_reachOf) := goodIn_app (goodIn_of _ (by decide +kernel)) ggX9_reach_X9_reachOf
theorem dX9_reach_0 : decode cX9_reach 0 = .ok (.aload_n 0, 1) := by decide +kernel
theorem dX9_reach_1 : decode cX9_reach 1 = .ok (.iload_n 1, 1) := by decide +kernel
theorem dX9_reach_2 : decode cX9_reach 2 = .ok (.invokevirtual 241, 3) := by decide +kernel
theorem dX9_reach_5 : decode cX9_reach 5 = .ok (.ifCond .eq 11, 3) := by decide +kernel
theorem dX9_reach_8 : decode cX9_reach 8 = .ok (.aload_n 0, 1) := by decide +kernel
theorem dX9_reach_9 : decode cX9_reach 9 = .ok (.iload_n 1, 1) := by decide +kernel
theorem dX9_reach_10 : decode cX9_reach 10 = .ok (.invokevirtual 247, 3) := by decide +kernel
theorem dX9_reach_13 : decode cX9_reach 13 = .ok (.goto 5, 3) := by decide +kernel
theorem dX9_reach_16 : decode cX9_reach 16 = .ok (.bipush (-101), 2) := by decide +kernel
theorem dX9_reach_18 : decode cX9_reach 18 = .ok (.ireturn, 1) := by decide +kernel
set_option maxRecDepth 20000 in
theorem ggX9_shiftedOf_X9_layRest : GoodIn wsX9_shiftedOf wsX9_layRest := goodIn_r _ [8, 9, 10, 11, 3, 12, 13, 14, 7, 15, 16, 17, 18, 19, 20, 21, 22, 23, 24, 25, 26, 27, 28, 29, 30, 31, 32, 33, 34, 35, 36, 37, 38, 39, 40, 41, 42, 43, 44, 45, 46, 47, 48, 49, 50, 51, 52, 53, 54, 55, 56, 57, 58, 59, 60, 61, 62, 63, 64, 65, 66, 67, 68, 69, 70, 71, 72, 73, 74, 75, 76, 77, 78, 79, 80, 81, 82, 83, 84, 85, 86, 87, 88, 89, 90, 91, 92, 93, 94, 95, 96, 97, 98, 99, 100, 101, 102, 103, 104] (by decide +kernel) (by decide +kernel)
set_option maxRecDepth 20000 in
theorem gX9_shiftedOf_X9_layRest : GoodIn wsX9_shiftedOf (wsV RX9 213 RX9 yX9_layRest wsX9_layRest) := goodIn_app (goodIn_of _ (by decide +kernel)) ggX9_shiftedOf_X9_layRest
set_option maxRecDepth 20000 in
theorem ggX9_shiftedOf_X9_bestFrom : GoodIn wsX9_shiftedOf wsX9_bestFrom := goodIn_r _ [34, 17, 3, 10, 11, 35, 36, 37, 7, 38, 16, 18, 19, 20, 21, 39, 40, 41, 42, 26, 27, 28, 29, 30, 43, 44, 45, 46, 47, 48, 49, 50, 51, 52, 53, 54, 55, 56, 57, 58, 59, 60, 61, 62, 63, 64, 65, 66, 67, 68, 69, 70, 71, 72, 73, 74, 75, 76, 77, 78, 79, 80, 81, 82, 83, 84, 85, 86, 87, 88, 89, 90, 91, 92, 93, 94, 95, 96, 97, 98, 99, 100, 101, 102, 103, 104] (by decide +kernel) (by decide +kernel)
set_option maxRecDepth 20000 in
theorem gX9_shiftedOf_X9_bestFrom : GoodIn wsX9_shiftedOf (wsV RX9 202 RX9 yX9_bestFrom wsX9_bestFrom) := goodIn_app (goodIn_of _ (by decide +kernel)) ggX9_shiftedOf_X9_bestFrom
theorem dX9_shiftedOf_0 : decode cX9_shiftedOf 0 = .ok (.aload_n 0, 1) := by decide +kernel
theorem dX9_shiftedOf_1 : decode cX9_shiftedOf 1 = .ok (.iload_n 1, 1) := by decide +kernel
theorem dX9_shiftedOf_2 : decode cX9_shiftedOf 2 = .ok (.invokevirtual 213, 3) := by decide +kernel
theorem dX9_shiftedOf_5 : decode cX9_shiftedOf 5 = .ok (.aload_n 0, 1) := by decide +kernel
theorem dX9_shiftedOf_6 : decode cX9_shiftedOf 6 = .ok (.aload_n 0, 1) := by decide +kernel
theorem dX9_shiftedOf_7 : decode cX9_shiftedOf 7 = .ok (.getfield 152, 3) := by decide +kernel
theorem dX9_shiftedOf_10 : decode cX9_shiftedOf 10 = .ok (.iconst 0, 1) := by decide +kernel
theorem dX9_shiftedOf_11 : decode cX9_shiftedOf 11 = .ok (.iload_n 1, 1) := by decide +kernel
theorem dX9_shiftedOf_12 : decode cX9_shiftedOf 12 = .ok (.invokevirtual 202, 3) := by decide +kernel
theorem dX9_shiftedOf_15 : decode cX9_shiftedOf 15 = .ok (.istore_n 2, 1) := by decide +kernel
theorem dX9_shiftedOf_16 : decode cX9_shiftedOf 16 = .ok (.aload_n 0, 1) := by decide +kernel
theorem dX9_shiftedOf_17 : decode cX9_shiftedOf 17 = .ok (.iconst 1, 1) := by decide +kernel
theorem dX9_shiftedOf_18 : decode cX9_shiftedOf 18 = .ok (.putfield 168, 3) := by decide +kernel
theorem dX9_shiftedOf_21 : decode cX9_shiftedOf 21 = .ok (.iload_n 2, 1) := by decide +kernel
theorem dX9_shiftedOf_22 : decode cX9_shiftedOf 22 = .ok (.ldc 188, 2) := by decide +kernel
theorem dX9_shiftedOf_24 : decode cX9_shiftedOf 24 = .ok (.if_icmp .ge 7, 3) := by decide +kernel
theorem dX9_shiftedOf_27 : decode cX9_shiftedOf 27 = .ok (.iload_n 2, 1) := by decide +kernel
theorem dX9_shiftedOf_28 : decode cX9_shiftedOf 28 = .ok (.goto 4, 3) := by decide +kernel
theorem dX9_shiftedOf_31 : decode cX9_shiftedOf 31 = .ok (.iconst (-1), 1) := by decide +kernel
theorem dX9_shiftedOf_32 : decode cX9_shiftedOf 32 = .ok (.ireturn, 1) := by decide +kernel
set_option maxRecDepth 20000 in
theorem ggX9_shifted_X9_in : GoodIn wsX9_shifted wsX9_in := goodIn_r _ [5] (by decide +kernel) (by decide +kernel)
set_option maxRecDepth 20000 in
theorem gX9_shifted_X9_in : GoodIn wsX9_shifted (va_wsS RX9 102 yX9_in wsX9_in) := goodIn_app (goodIn_of _ (by decide +kernel)) ggX9_shifted_X9_in
set_option maxRecDepth 20000 in
theorem ggX9_shifted_X9_lacks : GoodIn wsX9_shifted wsX9_lacks := goodIn_r _ [9, 10, 73, 74, 75, 76, 77, 78, 79, 80, 81, 82, 83, 84, 85, 86, 87, 88, 89, 90, 91, 92, 93, 94, 95, 96, 97, 98, 99, 100, 101, 102, 103, 104, 105, 106, 107, 108, 109, 110, 111, 112, 113, 114, 115, 116] (by decide +kernel) (by decide +kernel)
set_option maxRecDepth 20000 in
theorem gX9_shifted_X9_lacks : GoodIn wsX9_shifted (wsV RX9 231 RX9 yX9_lacks wsX9_lacks) := goodIn_app (goodIn_of _ (by decide +kernel)) ggX9_shifted_X9_lacks
set_option maxRecDepth 20000 in
theorem ggX9_shifted_X9_shiftedOf : GoodIn wsX9_shifted wsX9_shiftedOf := goodIn_r _ [14, 15, 16, 17, 18, 19, 20, 4, 21, 10, 22, 23, 24, 25, 26, 27, 28, 29, 30, 31, 32, 33, 34, 35, 36, 37, 38, 39, 40, 41, 42, 43, 44, 45, 46, 47, 48, 49, 50, 51, 52, 53, 54, 55, 56, 57, 58, 59, 60, 61, 62, 63, 64, 65, 66, 67, 68, 69, 70, 71, 72, 73, 74, 75, 76, 77, 78, 79, 80, 81, 82, 83, 84, 85, 86, 87, 88, 89, 90, 91, 92, 93, 94, 95, 96, 97, 98, 99, 100, 101, 102, 103, 104, 105, 106, 107, 108, 109, 110, 111, 112, 113, 114, 115, 116] (by decide +kernel) (by decide +kernel)
set_option maxRecDepth 20000 in
theorem gX9_shifted_X9_shiftedOf : GoodIn wsX9_shifted (wsV RX9 252 RX9 yX9_shiftedOf wsX9_shiftedOf) := goodIn_app (goodIn_of _ (by decide +kernel)) ggX9_shifted_X9_shiftedOf
theorem dX9_shifted_0 : decode cX9_shifted 0 = .ok (.iload_n 1, 1) := by decide +kernel
theorem dX9_shifted_1 : decode cX9_shifted 1 = .ok (.i2l, 1) := by decide +kernel
theorem dX9_shifted_2 : decode cX9_shifted 2 = .ok (.lconst 0, 1) := by decide +kernel
theorem dX9_shifted_3 : decode cX9_shifted 3 = .ok (.ldc2_w 250, 3) := by decide +kernel
theorem dX9_shifted_6 : decode cX9_shifted 6 = .ok (.invokestatic 102, 3) := by decide +kernel
theorem dX9_shifted_9 : decode cX9_shifted 9 = .ok (.ifCond .ne 6, 3) := by decide +kernel
theorem dX9_shifted_12 : decode cX9_shifted 12 = .ok (.bipush (-102), 2) := by decide +kernel
theorem dX9_shifted_14 : decode cX9_shifted 14 = .ok (.ireturn, 1) := by decide +kernel
theorem dX9_shifted_15 : decode cX9_shifted 15 = .ok (.aload_n 0, 1) := by decide +kernel
theorem dX9_shifted_16 : decode cX9_shifted 16 = .ok (.invokevirtual 231, 3) := by decide +kernel
theorem dX9_shifted_19 : decode cX9_shifted 19 = .ok (.ifCond .eq 8, 3) := by decide +kernel
theorem dX9_shifted_22 : decode cX9_shifted 22 = .ok (.bipush (-103), 2) := by decide +kernel
theorem dX9_shifted_24 : decode cX9_shifted 24 = .ok (.goto 8, 3) := by decide +kernel
theorem dX9_shifted_27 : decode cX9_shifted 27 = .ok (.aload_n 0, 1) := by decide +kernel
theorem dX9_shifted_28 : decode cX9_shifted 28 = .ok (.iload_n 1, 1) := by decide +kernel
theorem dX9_shifted_29 : decode cX9_shifted 29 = .ok (.invokevirtual 252, 3) := by decide +kernel
theorem dX9_shifted_32 : decode cX9_shifted 32 = .ok (.ireturn, 1) := by decide +kernel
set_option maxRecDepth 20000 in
theorem ggX9_leastShift_X9_lacks : GoodIn wsX9_leastShift wsX9_lacks := goodIn_r _ [7, 8, 70, 71, 72, 73, 74, 75, 76, 77, 78, 79, 80, 81, 82, 83, 84, 85, 86, 87, 88, 89, 90, 91, 92, 93, 94, 95, 96, 97, 98, 99, 100, 101, 102, 103, 104, 105, 106, 107, 108, 109, 110, 111, 112, 113] (by decide +kernel) (by decide +kernel)
set_option maxRecDepth 20000 in
theorem gX9_leastShift_X9_lacks : GoodIn wsX9_leastShift (wsV RX9 231 RX9 yX9_lacks wsX9_lacks) := goodIn_app (goodIn_of _ (by decide +kernel)) ggX9_leastShift_X9_lacks
set_option maxRecDepth 20000 in
theorem ggX9_leastShift_X9_shiftedOf : GoodIn wsX9_leastShift wsX9_shiftedOf := goodIn_r _ [12, 13, 14, 2, 15, 16, 17, 6, 18, 8, 19, 20, 21, 22, 23, 24, 25, 26, 27, 28, 29, 30, 31, 32, 33, 34, 35, 36, 37, 38, 39, 40, 41, 42, 43, 44, 45, 46, 47, 48, 49, 50, 51, 52, 53, 54, 55, 56, 57, 58, 59, 60, 61, 62, 63, 64, 65, 66, 67, 68, 69, 70, 71, 72, 73, 74, 75, 76, 77, 78, 79, 80, 81, 82, 83, 84, 85, 86, 87, 88, 89, 90, 91, 92, 93, 94, 95, 96, 97, 98, 99, 100, 101, 102, 103, 104, 105, 106, 107, 108, 109, 110, 111, 112, 113] (by decide +kernel) (by decide +kernel)
set_option maxRecDepth 20000 in
theorem gX9_leastShift_X9_shiftedOf : GoodIn wsX9_leastShift (wsV RX9 252 RX9 yX9_shiftedOf wsX9_shiftedOf) := goodIn_app (goodIn_of _ (by decide +kernel)) ggX9_leastShift_X9_shiftedOf
theorem dX9_leastShift_0 : decode cX9_leastShift 0 = .ok (.aload_n 0, 1) := by decide +kernel
theorem dX9_leastShift_1 : decode cX9_leastShift 1 = .ok (.invokevirtual 231, 3) := by decide +kernel
theorem dX9_leastShift_4 : decode cX9_leastShift 4 = .ok (.ifCond .ne 11, 3) := by decide +kernel
theorem dX9_leastShift_7 : decode cX9_leastShift 7 = .ok (.aload_n 0, 1) := by decide +kernel
theorem dX9_leastShift_8 : decode cX9_leastShift 8 = .ok (.getfield 255, 3) := by decide +kernel
theorem dX9_leastShift_11 : decode cX9_leastShift 11 = .ok (.iconst 5, 1) := by decide +kernel
theorem dX9_leastShift_12 : decode cX9_leastShift 12 = .ok (.if_icmp .ne 6, 3) := by decide +kernel
theorem dX9_leastShift_15 : decode cX9_leastShift 15 = .ok (.bipush (-103), 2) := by decide +kernel
theorem dX9_leastShift_17 : decode cX9_leastShift 17 = .ok (.ireturn, 1) := by decide +kernel
theorem dX9_leastShift_18 : decode cX9_leastShift 18 = .ok (.aload_n 0, 1) := by decide +kernel
theorem dX9_leastShift_19 : decode cX9_leastShift 19 = .ok (.dup, 1) := by decide +kernel
theorem dX9_leastShift_20 : decode cX9_leastShift 20 = .ok (.getfield 255, 3) := by decide +kernel
theorem dX9_leastShift_23 : decode cX9_leastShift 23 = .ok (.iconst 1, 1) := by decide +kernel
theorem dX9_leastShift_24 : decode cX9_leastShift 24 = .ok (.iadd, 1) := by decide +kernel
theorem dX9_leastShift_25 : decode cX9_leastShift 25 = .ok (.putfield 255, 3) := by decide +kernel
theorem dX9_leastShift_28 : decode cX9_leastShift 28 = .ok (.iconst (-1), 1) := by decide +kernel
theorem dX9_leastShift_29 : decode cX9_leastShift 29 = .ok (.istore_n 1, 1) := by decide +kernel
theorem dX9_leastShift_30 : decode cX9_leastShift 30 = .ok (.ldc 188, 2) := by decide +kernel
theorem dX9_leastShift_32 : decode cX9_leastShift 32 = .ok (.istore_n 2, 1) := by decide +kernel
theorem dX9_leastShift_33 : decode cX9_leastShift 33 = .ok (.iconst 0, 1) := by decide +kernel
theorem dX9_leastShift_34 : decode cX9_leastShift 34 = .ok (.istore_n 3, 1) := by decide +kernel
theorem dX9_leastShift_35 : decode cX9_leastShift 35 = .ok (.iload_n 3, 1) := by decide +kernel
theorem dX9_leastShift_36 : decode cX9_leastShift 36 = .ok (.bipush 12, 2) := by decide +kernel
theorem dX9_leastShift_38 : decode cX9_leastShift 38 = .ok (.if_icmp .ge 53, 3) := by decide +kernel
theorem dX9_leastShift_41 : decode cX9_leastShift 41 = .ok (.aload_n 0, 1) := by decide +kernel
theorem dX9_leastShift_42 : decode cX9_leastShift 42 = .ok (.iload_n 3, 1) := by decide +kernel
theorem dX9_leastShift_43 : decode cX9_leastShift 43 = .ok (.invokevirtual 252, 3) := by decide +kernel
theorem dX9_leastShift_46 : decode cX9_leastShift 46 = .ok (.istore 4, 2) := by decide +kernel
theorem dX9_leastShift_48 : decode cX9_leastShift 48 = .ok (.iload 4, 2) := by decide +kernel
theorem dX9_leastShift_50 : decode cX9_leastShift 50 = .ok (.iconst (-1), 1) := by decide +kernel
theorem dX9_leastShift_51 : decode cX9_leastShift 51 = .ok (.if_icmp .eq 13, 3) := by decide +kernel
theorem dX9_leastShift_54 : decode cX9_leastShift 54 = .ok (.iload 4, 2) := by decide +kernel
theorem dX9_leastShift_56 : decode cX9_leastShift 56 = .ok (.iload_n 2, 1) := by decide +kernel
theorem dX9_leastShift_57 : decode cX9_leastShift 57 = .ok (.if_icmp .ge 7, 3) := by decide +kernel
theorem dX9_leastShift_60 : decode cX9_leastShift 60 = .ok (.iload_n 3, 1) := by decide +kernel
theorem dX9_leastShift_61 : decode cX9_leastShift 61 = .ok (.goto 4, 3) := by decide +kernel
theorem dX9_leastShift_64 : decode cX9_leastShift 64 = .ok (.iload_n 1, 1) := by decide +kernel
theorem dX9_leastShift_65 : decode cX9_leastShift 65 = .ok (.istore_n 1, 1) := by decide +kernel
theorem dX9_leastShift_66 : decode cX9_leastShift 66 = .ok (.iload 4, 2) := by decide +kernel
theorem dX9_leastShift_68 : decode cX9_leastShift 68 = .ok (.iconst (-1), 1) := by decide +kernel
theorem dX9_leastShift_69 : decode cX9_leastShift 69 = .ok (.if_icmp .eq 14, 3) := by decide +kernel
theorem dX9_leastShift_72 : decode cX9_leastShift 72 = .ok (.iload 4, 2) := by decide +kernel
theorem dX9_leastShift_74 : decode cX9_leastShift 74 = .ok (.iload_n 2, 1) := by decide +kernel
theorem dX9_leastShift_75 : decode cX9_leastShift 75 = .ok (.if_icmp .ge 8, 3) := by decide +kernel
theorem dX9_leastShift_78 : decode cX9_leastShift 78 = .ok (.iload 4, 2) := by decide +kernel
theorem dX9_leastShift_80 : decode cX9_leastShift 80 = .ok (.goto 4, 3) := by decide +kernel
theorem dX9_leastShift_83 : decode cX9_leastShift 83 = .ok (.iload_n 2, 1) := by decide +kernel
theorem dX9_leastShift_84 : decode cX9_leastShift 84 = .ok (.istore_n 2, 1) := by decide +kernel
theorem dX9_leastShift_85 : decode cX9_leastShift 85 = .ok (.iinc 3 1, 3) := by decide +kernel
theorem dX9_leastShift_88 : decode cX9_leastShift 88 = .ok (.goto (-53), 3) := by decide +kernel
theorem dX9_leastShift_91 : decode cX9_leastShift 91 = .ok (.iload_n 1, 1) := by decide +kernel
theorem dX9_leastShift_92 : decode cX9_leastShift 92 = .ok (.ireturn, 1) := by decide +kernel
set_option maxRecDepth 20000 in
theorem ggX9_freeOf_X9_layRest : GoodIn wsX9_freeOf wsX9_layRest := goodIn_r _ [6, 7, 8, 9, 1, 10, 11, 12, 5, 13, 14, 15, 16, 17, 18, 19, 20, 21, 22, 23, 24, 25, 26, 27, 28, 29, 30, 31, 32, 33, 34, 35, 36, 37, 38, 39, 40, 41, 42, 43, 44, 45, 46, 47, 48, 49, 50, 51, 52, 53, 54, 55, 56, 57, 58, 68, 69, 70, 71, 72, 73, 74, 75, 76, 77, 78, 79, 80, 81, 82, 83, 84, 85, 86, 87, 88, 89, 90, 91, 92, 93, 94, 95, 96, 97, 98, 99, 100, 101, 102, 103, 104, 105, 106, 107, 108, 109, 110, 111] (by decide +kernel) (by decide +kernel)
set_option maxRecDepth 20000 in
theorem gX9_freeOf_X9_layRest : GoodIn wsX9_freeOf (wsV RX9 213 RX9 yX9_layRest wsX9_layRest) := goodIn_app (goodIn_of _ (by decide +kernel)) ggX9_freeOf_X9_layRest
set_option maxRecDepth 20000 in
theorem ggX9_freeOf_X9_bestFrom : GoodIn wsX9_freeOf wsX9_bestFrom := goodIn_r _ [32, 15, 1, 8, 9, 33, 34, 35, 5, 36, 14, 16, 17, 18, 19, 37, 38, 39, 40, 24, 25, 26, 27, 28, 41, 42, 43, 44, 45, 46, 47, 48, 49, 50, 51, 52, 53, 54, 55, 56, 57, 58, 68, 69, 70, 71, 72, 73, 74, 75, 76, 77, 78, 79, 80, 81, 82, 83, 84, 85, 86, 87, 88, 89, 90, 91, 92, 93, 94, 95, 96, 97, 98, 99, 100, 101, 102, 103, 104, 105, 106, 107, 108, 109, 110, 111] (by decide +kernel) (by decide +kernel)
set_option maxRecDepth 20000 in
theorem gX9_freeOf_X9_bestFrom : GoodIn wsX9_freeOf (wsV RX9 202 RX9 yX9_bestFrom wsX9_bestFrom) := goodIn_app (goodIn_of _ (by decide +kernel)) ggX9_freeOf_X9_bestFrom
set_option maxRecDepth 20000 in
theorem ggX9_freeOf_X9_told : GoodIn wsX9_freeOf wsX9_told := goodIn_r _ [62, 63, 64, 65, 5, 66, 67, 68, 69, 70, 71, 72, 73, 74, 75, 76, 77, 78, 79, 80, 81, 82, 83, 84, 85, 86, 87, 88, 89, 90, 91, 92, 93, 94, 95, 96, 97, 98, 99, 100, 101, 102, 103, 104, 105, 106, 107, 108, 109, 110, 111] (by decide +kernel) (by decide +kernel)
set_option maxRecDepth 20000 in
theorem gX9_freeOf_X9_told : GoodIn wsX9_freeOf (wsV RX9 238 RX9 yX9_told wsX9_told) := goodIn_app (goodIn_of _ (by decide +kernel)) ggX9_freeOf_X9_told
theorem dX9_freeOf_0 : decode cX9_freeOf 0 = .ok (.aload_n 0, 1) := by decide +kernel
theorem dX9_freeOf_1 : decode cX9_freeOf 1 = .ok (.iconst 0, 1) := by decide +kernel
theorem dX9_freeOf_2 : decode cX9_freeOf 2 = .ok (.invokevirtual 213, 3) := by decide +kernel
theorem dX9_freeOf_5 : decode cX9_freeOf 5 = .ok (.iconst (-1), 1) := by decide +kernel
theorem dX9_freeOf_6 : decode cX9_freeOf 6 = .ok (.istore_n 1, 1) := by decide +kernel
theorem dX9_freeOf_7 : decode cX9_freeOf 7 = .ok (.ldc 188, 2) := by decide +kernel
theorem dX9_freeOf_9 : decode cX9_freeOf 9 = .ok (.istore_n 2, 1) := by decide +kernel
theorem dX9_freeOf_10 : decode cX9_freeOf 10 = .ok (.iconst 0, 1) := by decide +kernel
theorem dX9_freeOf_11 : decode cX9_freeOf 11 = .ok (.istore_n 3, 1) := by decide +kernel
theorem dX9_freeOf_12 : decode cX9_freeOf 12 = .ok (.iload_n 3, 1) := by decide +kernel
theorem dX9_freeOf_13 : decode cX9_freeOf 13 = .ok (.sipush 2187, 3) := by decide +kernel
theorem dX9_freeOf_16 : decode cX9_freeOf 16 = .ok (.if_icmp .ge 43, 3) := by decide +kernel
theorem dX9_freeOf_19 : decode cX9_freeOf 19 = .ok (.aload_n 0, 1) := by decide +kernel
theorem dX9_freeOf_20 : decode cX9_freeOf 20 = .ok (.iload_n 3, 1) := by decide +kernel
theorem dX9_freeOf_21 : decode cX9_freeOf 21 = .ok (.iconst 0, 1) := by decide +kernel
theorem dX9_freeOf_22 : decode cX9_freeOf 22 = .ok (.iconst 0, 1) := by decide +kernel
theorem dX9_freeOf_23 : decode cX9_freeOf 23 = .ok (.invokevirtual 202, 3) := by decide +kernel
theorem dX9_freeOf_26 : decode cX9_freeOf 26 = .ok (.istore 4, 2) := by decide +kernel
theorem dX9_freeOf_28 : decode cX9_freeOf 28 = .ok (.iload 4, 2) := by decide +kernel
theorem dX9_freeOf_30 : decode cX9_freeOf 30 = .ok (.iload_n 2, 1) := by decide +kernel
theorem dX9_freeOf_31 : decode cX9_freeOf 31 = .ok (.if_icmp .ge 7, 3) := by decide +kernel
theorem dX9_freeOf_34 : decode cX9_freeOf 34 = .ok (.iload_n 3, 1) := by decide +kernel
theorem dX9_freeOf_35 : decode cX9_freeOf 35 = .ok (.goto 4, 3) := by decide +kernel
theorem dX9_freeOf_38 : decode cX9_freeOf 38 = .ok (.iload_n 1, 1) := by decide +kernel
theorem dX9_freeOf_39 : decode cX9_freeOf 39 = .ok (.istore_n 1, 1) := by decide +kernel
theorem dX9_freeOf_40 : decode cX9_freeOf 40 = .ok (.iload 4, 2) := by decide +kernel
theorem dX9_freeOf_42 : decode cX9_freeOf 42 = .ok (.iload_n 2, 1) := by decide +kernel
theorem dX9_freeOf_43 : decode cX9_freeOf 43 = .ok (.if_icmp .ge 8, 3) := by decide +kernel
theorem dX9_freeOf_46 : decode cX9_freeOf 46 = .ok (.iload 4, 2) := by decide +kernel
theorem dX9_freeOf_48 : decode cX9_freeOf 48 = .ok (.goto 4, 3) := by decide +kernel
theorem dX9_freeOf_51 : decode cX9_freeOf 51 = .ok (.iload_n 2, 1) := by decide +kernel
theorem dX9_freeOf_52 : decode cX9_freeOf 52 = .ok (.istore_n 2, 1) := by decide +kernel
theorem dX9_freeOf_53 : decode cX9_freeOf 53 = .ok (.iinc 3 1, 3) := by decide +kernel
theorem dX9_freeOf_56 : decode cX9_freeOf 56 = .ok (.goto (-44), 3) := by decide +kernel
theorem dX9_freeOf_59 : decode cX9_freeOf 59 = .ok (.iload_n 1, 1) := by decide +kernel
theorem dX9_freeOf_60 : decode cX9_freeOf 60 = .ok (.iconst (-1), 1) := by decide +kernel
theorem dX9_freeOf_61 : decode cX9_freeOf 61 = .ok (.if_icmp .ne 7, 3) := by decide +kernel
theorem dX9_freeOf_64 : decode cX9_freeOf 64 = .ok (.iconst (-1), 1) := by decide +kernel
theorem dX9_freeOf_65 : decode cX9_freeOf 65 = .ok (.goto 8, 3) := by decide +kernel
theorem dX9_freeOf_68 : decode cX9_freeOf 68 = .ok (.aload_n 0, 1) := by decide +kernel
theorem dX9_freeOf_69 : decode cX9_freeOf 69 = .ok (.iload_n 1, 1) := by decide +kernel
theorem dX9_freeOf_70 : decode cX9_freeOf 70 = .ok (.invokevirtual 238, 3) := by decide +kernel
theorem dX9_freeOf_73 : decode cX9_freeOf 73 = .ok (.ireturn, 1) := by decide +kernel
set_option maxRecDepth 20000 in
theorem ggX9_free_X9_lacks : GoodIn wsX9_free wsX9_lacks := goodIn_r _ [5, 6, 76, 77, 78, 79, 80, 81, 82, 83, 84, 85, 86, 87, 88, 89, 90, 91, 92, 93, 94, 95, 96, 97, 98, 99, 100, 101, 102, 103, 104, 105, 106, 107, 108, 109, 110, 111, 112, 113, 114, 115, 116, 117, 118, 119] (by decide +kernel) (by decide +kernel)
set_option maxRecDepth 20000 in
theorem gX9_free_X9_lacks : GoodIn wsX9_free (wsV RX9 231 RX9 yX9_lacks wsX9_lacks) := goodIn_app (goodIn_of _ (by decide +kernel)) ggX9_free_X9_lacks
set_option maxRecDepth 20000 in
theorem ggX9_free_X9_freeOf : GoodIn wsX9_free wsX9_freeOf := goodIn_r _ [10, 11, 12, 13, 14, 4, 15, 6, 16, 17, 18, 19, 20, 21, 22, 23, 24, 25, 26, 27, 28, 29, 30, 31, 32, 33, 34, 35, 36, 37, 38, 39, 40, 41, 42, 43, 44, 45, 46, 47, 48, 49, 50, 51, 52, 53, 54, 55, 56, 57, 58, 59, 60, 61, 62, 63, 64, 65, 66, 67, 68, 69, 70, 71, 72, 73, 74, 75, 76, 77, 78, 79, 80, 81, 82, 83, 84, 85, 86, 87, 88, 89, 90, 91, 92, 93, 94, 95, 96, 97, 98, 99, 100, 101, 102, 103, 104, 105, 106, 107, 108, 109, 110, 111, 112, 113, 114, 115, 116, 117, 118, 119] (by decide +kernel) (by decide +kernel)
set_option maxRecDepth 20000 in
theorem gX9_free_X9_freeOf : GoodIn wsX9_free (wsV RX9 258 RX9 yX9_freeOf wsX9_freeOf) := goodIn_app (goodIn_of _ (by decide +kernel)) ggX9_free_X9_freeOf
theorem dX9_free_0 : decode cX9_free 0 = .ok (.aload_n 0, 1) := by decide +kernel
theorem dX9_free_1 : decode cX9_free 1 = .ok (.invokevirtual 231, 3) := by decide +kernel
theorem dX9_free_4 : decode cX9_free 4 = .ok (.ifCond .eq 8, 3) := by decide +kernel
theorem dX9_free_7 : decode cX9_free 7 = .ok (.bipush (-103), 2) := by decide +kernel
theorem dX9_free_9 : decode cX9_free 9 = .ok (.goto 7, 3) := by decide +kernel
theorem dX9_free_12 : decode cX9_free 12 = .ok (.aload_n 0, 1) := by decide +kernel
theorem dX9_free_13 : decode cX9_free 13 = .ok (.invokevirtual 258, 3) := by decide +kernel
theorem dX9_free_16 : decode cX9_free 16 = .ok (.ireturn, 1) := by decide +kernel
set_option maxRecDepth 20000 in
theorem ggX9_fitting_X9_freshen : GoodIn wsX9_fitting wsX9_freshen := goodIn_r _ [7, 8, 9, 10, 11, 12, 13, 14, 15, 16, 17, 18, 19, 20, 21, 6, 22, 23, 24, 25, 26, 27, 28, 2, 1, 29, 30, 31, 32, 33, 34, 35, 36, 37, 38, 39, 40, 41, 42, 43, 44, 45, 46, 47, 48, 49, 50, 51, 52, 53, 54, 55, 56, 57, 58, 59, 60, 61, 62, 63, 64, 65, 66, 67, 68, 69, 70, 71, 72, 73, 74, 75, 76, 77, 78, 79, 80, 81, 82, 83, 84, 94, 95, 96, 97, 98, 99, 100, 101, 102, 103, 104, 105, 106, 107, 108, 109, 110, 111, 112, 113, 114, 115, 116, 117, 118, 119, 120, 121, 122, 123, 124, 125, 126, 127, 128, 129, 130, 131, 132, 133, 134, 135, 136, 137] (by decide +kernel) (by decide +kernel)
set_option maxRecDepth 20000 in
theorem gX9_fitting_X9_freshen : GoodIn wsX9_fitting (wsV RX9 228 RX9 yX9_freshen wsX9_freshen) := goodIn_app (goodIn_of _ (by decide +kernel)) ggX9_fitting_X9_freshen
set_option maxRecDepth 20000 in
theorem ggX9_fitting_X9_isFitting : GoodIn wsX9_fitting wsX9_isFitting := goodIn_r _ [36, 37, 38, 39, 6, 40, 41, 94, 95, 96, 97, 98, 99, 100, 101, 102, 103, 104, 105, 106, 107, 108, 109, 110, 111, 112, 113, 114, 115, 116, 117, 118, 119, 120, 121, 122, 123, 124, 125, 126, 127, 128, 129, 130, 131, 132, 133, 134, 135, 136, 137] (by decide +kernel) (by decide +kernel)
set_option maxRecDepth 20000 in
theorem gX9_fitting_X9_isFitting : GoodIn wsX9_fitting (wsV RX9 175 RX9 yX9_isFitting wsX9_isFitting) := goodIn_app (goodIn_of _ (by decide +kernel)) ggX9_fitting_X9_isFitting
set_option maxRecDepth 20000 in
theorem ggX9_fitting_X9_told : GoodIn wsX9_fitting wsX9_told := goodIn_r _ [88, 89, 90, 91, 6, 92, 93, 94, 95, 96, 97, 98, 99, 100, 101, 102, 103, 104, 105, 106, 107, 108, 109, 110, 111, 112, 113, 114, 115, 116, 117, 118, 119, 120, 121, 122, 123, 124, 125, 126, 127, 128, 129, 130, 131, 132, 133, 134, 135, 136, 137] (by decide +kernel) (by decide +kernel)
set_option maxRecDepth 20000 in
theorem gX9_fitting_X9_told : GoodIn wsX9_fitting (wsV RX9 238 RX9 yX9_told wsX9_told) := goodIn_app (goodIn_of _ (by decide +kernel)) ggX9_fitting_X9_told
theorem dX9_fitting_0 : decode cX9_fitting 0 = .ok (.aload_n 0, 1) := by decide +kernel
theorem dX9_fitting_1 : decode cX9_fitting 1 = .ok (.invokevirtual 228, 3) := by decide +kernel
theorem dX9_fitting_4 : decode cX9_fitting 4 = .ok (.iconst 0, 1) := by decide +kernel
theorem dX9_fitting_5 : decode cX9_fitting 5 = .ok (.istore_n 3, 1) := by decide +kernel
theorem dX9_fitting_6 : decode cX9_fitting 6 = .ok (.iconst (-1), 1) := by decide +kernel
theorem dX9_fitting_7 : decode cX9_fitting 7 = .ok (.istore 4, 2) := by decide +kernel
theorem dX9_fitting_9 : decode cX9_fitting 9 = .ok (.iconst 0, 1) := by decide +kernel
theorem dX9_fitting_10 : decode cX9_fitting 10 = .ok (.istore 5, 2) := by decide +kernel
theorem dX9_fitting_12 : decode cX9_fitting 12 = .ok (.iload 5, 2) := by decide +kernel
theorem dX9_fitting_14 : decode cX9_fitting 14 = .ok (.sipush 2187, 3) := by decide +kernel
theorem dX9_fitting_17 : decode cX9_fitting 17 = .ok (.if_icmp .ge 60, 3) := by decide +kernel
theorem dX9_fitting_20 : decode cX9_fitting 20 = .ok (.aload_n 0, 1) := by decide +kernel
theorem dX9_fitting_21 : decode cX9_fitting 21 = .ok (.iload 5, 2) := by decide +kernel
theorem dX9_fitting_23 : decode cX9_fitting 23 = .ok (.aload_n 0, 1) := by decide +kernel
theorem dX9_fitting_24 : decode cX9_fitting 24 = .ok (.getfield 50, 3) := by decide +kernel
theorem dX9_fitting_27 : decode cX9_fitting 27 = .ok (.iload_n 1, 1) := by decide +kernel
theorem dX9_fitting_28 : decode cX9_fitting 28 = .ok (.iaload, 1) := by decide +kernel
theorem dX9_fitting_29 : decode cX9_fitting 29 = .ok (.aload_n 0, 1) := by decide +kernel
theorem dX9_fitting_30 : decode cX9_fitting 30 = .ok (.getfield 53, 3) := by decide +kernel
theorem dX9_fitting_33 : decode cX9_fitting 33 = .ok (.iload_n 1, 1) := by decide +kernel
theorem dX9_fitting_34 : decode cX9_fitting 34 = .ok (.iaload, 1) := by decide +kernel
theorem dX9_fitting_35 : decode cX9_fitting 35 = .ok (.invokevirtual 175, 3) := by decide +kernel
theorem dX9_fitting_38 : decode cX9_fitting 38 = .ok (.istore 6, 2) := by decide +kernel
theorem dX9_fitting_40 : decode cX9_fitting 40 = .ok (.iload 6, 2) := by decide +kernel
theorem dX9_fitting_42 : decode cX9_fitting 42 = .ok (.ifCond .eq 12, 3) := by decide +kernel
theorem dX9_fitting_45 : decode cX9_fitting 45 = .ok (.iload_n 3, 1) := by decide +kernel
theorem dX9_fitting_46 : decode cX9_fitting 46 = .ok (.ifCond .ne 8, 3) := by decide +kernel
theorem dX9_fitting_49 : decode cX9_fitting 49 = .ok (.iload 5, 2) := by decide +kernel
theorem dX9_fitting_51 : decode cX9_fitting 51 = .ok (.goto 5, 3) := by decide +kernel
theorem dX9_fitting_54 : decode cX9_fitting 54 = .ok (.iload 4, 2) := by decide +kernel
theorem dX9_fitting_56 : decode cX9_fitting 56 = .ok (.istore 4, 2) := by decide +kernel
theorem dX9_fitting_58 : decode cX9_fitting 58 = .ok (.iload_n 3, 1) := by decide +kernel
theorem dX9_fitting_59 : decode cX9_fitting 59 = .ok (.iload 6, 2) := by decide +kernel
theorem dX9_fitting_61 : decode cX9_fitting 61 = .ok (.ifCond .eq 7, 3) := by decide +kernel
theorem dX9_fitting_64 : decode cX9_fitting 64 = .ok (.iconst 1, 1) := by decide +kernel
theorem dX9_fitting_65 : decode cX9_fitting 65 = .ok (.goto 4, 3) := by decide +kernel
theorem dX9_fitting_68 : decode cX9_fitting 68 = .ok (.iconst 0, 1) := by decide +kernel
theorem dX9_fitting_69 : decode cX9_fitting 69 = .ok (.iadd, 1) := by decide +kernel
theorem dX9_fitting_70 : decode cX9_fitting 70 = .ok (.istore_n 3, 1) := by decide +kernel
theorem dX9_fitting_71 : decode cX9_fitting 71 = .ok (.iinc 5 1, 3) := by decide +kernel
theorem dX9_fitting_74 : decode cX9_fitting 74 = .ok (.goto (-62), 3) := by decide +kernel
theorem dX9_fitting_77 : decode cX9_fitting 77 = .ok (.iload_n 2, 1) := by decide +kernel
theorem dX9_fitting_78 : decode cX9_fitting 78 = .ok (.iconst 2, 1) := by decide +kernel
theorem dX9_fitting_79 : decode cX9_fitting 79 = .ok (.if_icmp .ne 7, 3) := by decide +kernel
theorem dX9_fitting_82 : decode cX9_fitting 82 = .ok (.iload_n 3, 1) := by decide +kernel
theorem dX9_fitting_83 : decode cX9_fitting 83 = .ok (.goto 17, 3) := by decide +kernel
theorem dX9_fitting_86 : decode cX9_fitting 86 = .ok (.iload_n 3, 1) := by decide +kernel
theorem dX9_fitting_87 : decode cX9_fitting 87 = .ok (.ifCond .ne 7, 3) := by decide +kernel
theorem dX9_fitting_90 : decode cX9_fitting 90 = .ok (.iconst (-1), 1) := by decide +kernel
theorem dX9_fitting_91 : decode cX9_fitting 91 = .ok (.goto 9, 3) := by decide +kernel
theorem dX9_fitting_94 : decode cX9_fitting 94 = .ok (.aload_n 0, 1) := by decide +kernel
theorem dX9_fitting_95 : decode cX9_fitting 95 = .ok (.iload 4, 2) := by decide +kernel
theorem dX9_fitting_97 : decode cX9_fitting 97 = .ok (.invokevirtual 238, 3) := by decide +kernel
theorem dX9_fitting_100 : decode cX9_fitting 100 = .ok (.ireturn, 1) := by decide +kernel
set_option maxRecDepth 20000 in
theorem ggX9_tellChord_X9_fitting : GoodIn wsX9_tellChord wsX9_fitting := goodIn_r _ [7, 1, 2, 8, 9, 10, 6, 11, 12, 13, 14, 15, 16, 17, 18, 19, 20, 21, 22, 23, 24, 25, 26, 27, 28, 29, 30, 31, 32, 33, 34, 35, 36, 37, 38, 39, 40, 41, 42, 43, 44, 45, 46, 47, 48, 49, 50, 51, 52, 53, 54, 55, 56, 57, 58, 59, 60, 61, 62, 63, 64, 65, 66, 67, 68, 69, 70, 71, 72, 73, 74, 75, 76, 77, 78, 79, 80, 81, 82, 83, 84, 85, 86, 87, 88, 89, 90, 91, 92, 93, 94, 95, 96, 97, 114, 115, 116, 117, 118, 119, 120, 121, 122, 123, 124, 125, 126, 127, 128, 129, 130, 131, 132, 133, 134, 135, 136, 137, 138, 139, 140, 141, 142, 143, 144, 145, 146, 147, 148, 149, 150, 151, 152, 153, 154, 155, 156, 157] (by decide +kernel) (by decide +kernel)
set_option maxRecDepth 20000 in
theorem gX9_tellChord_X9_fitting : GoodIn wsX9_tellChord (wsV RX9 261 RX9 yX9_fitting wsX9_fitting) := goodIn_app (goodIn_of _ (by decide +kernel)) ggX9_tellChord_X9_fitting
set_option maxRecDepth 20000 in
theorem ggX9_tellChord_X9_sortsOf : GoodIn wsX9_tellChord wsX9_sortsOf := goodIn_r _ [101, 102, 103, 104, 105, 6, 106, 114, 115, 116, 117, 118, 119, 120, 121, 122, 123, 124, 125, 126, 127, 128, 129, 130, 131, 132, 133, 134, 135, 136, 137, 138, 139, 140, 141, 142, 143, 144, 145, 146, 147, 148, 149, 150, 151, 152, 153, 154, 155, 156, 157] (by decide +kernel) (by decide +kernel)
set_option maxRecDepth 20000 in
theorem gX9_tellChord_X9_sortsOf : GoodIn wsX9_tellChord (wsV RX9 264 RX9 yX9_sortsOf wsX9_sortsOf) := goodIn_app (goodIn_of _ (by decide +kernel)) ggX9_tellChord_X9_sortsOf
set_option maxRecDepth 20000 in
theorem ggX9_tellChord_X9_askOf : GoodIn wsX9_tellChord wsX9_askOf := goodIn_r _ [110, 98, 99, 100, 6, 101, 102, 103, 104, 105, 106, 111, 112, 113, 114, 115, 116, 117, 118, 119, 120, 121, 122, 123, 124, 125, 126, 127, 128, 129, 130, 131, 132, 133, 134, 135, 136, 137, 138, 139, 140, 141, 142, 143, 144, 145, 146, 147, 148, 149, 150, 151, 152, 153, 154, 155, 156, 157] (by decide +kernel) (by decide +kernel)
set_option maxRecDepth 20000 in
theorem gX9_tellChord_X9_askOf : GoodIn wsX9_tellChord (wsV RX9 267 RX9 yX9_askOf wsX9_askOf) := goodIn_app (goodIn_of _ (by decide +kernel)) ggX9_tellChord_X9_askOf
theorem dX9_tellChord_0 : decode cX9_tellChord 0 = .ok (.iload_n 2, 1) := by decide +kernel
theorem dX9_tellChord_1 : decode cX9_tellChord 1 = .ok (.tableswitch 72 0 5 #[39, 46, 53, 53, 60, 66], 39) := by decide +kernel
theorem dX9_tellChord_40 : decode cX9_tellChord 40 = .ok (.aload_n 0, 1) := by decide +kernel
theorem dX9_tellChord_41 : decode cX9_tellChord 41 = .ok (.getfield 50, 3) := by decide +kernel
theorem dX9_tellChord_44 : decode cX9_tellChord 44 = .ok (.iload_n 1, 1) := by decide +kernel
theorem dX9_tellChord_45 : decode cX9_tellChord 45 = .ok (.iaload, 1) := by decide +kernel
theorem dX9_tellChord_46 : decode cX9_tellChord 46 = .ok (.ireturn, 1) := by decide +kernel
theorem dX9_tellChord_47 : decode cX9_tellChord 47 = .ok (.aload_n 0, 1) := by decide +kernel
theorem dX9_tellChord_48 : decode cX9_tellChord 48 = .ok (.getfield 53, 3) := by decide +kernel
theorem dX9_tellChord_51 : decode cX9_tellChord 51 = .ok (.iload_n 1, 1) := by decide +kernel
theorem dX9_tellChord_52 : decode cX9_tellChord 52 = .ok (.iaload, 1) := by decide +kernel
theorem dX9_tellChord_53 : decode cX9_tellChord 53 = .ok (.ireturn, 1) := by decide +kernel
theorem dX9_tellChord_54 : decode cX9_tellChord 54 = .ok (.aload_n 0, 1) := by decide +kernel
theorem dX9_tellChord_55 : decode cX9_tellChord 55 = .ok (.iload_n 1, 1) := by decide +kernel
theorem dX9_tellChord_56 : decode cX9_tellChord 56 = .ok (.iload_n 2, 1) := by decide +kernel
theorem dX9_tellChord_57 : decode cX9_tellChord 57 = .ok (.invokevirtual 261, 3) := by decide +kernel
theorem dX9_tellChord_60 : decode cX9_tellChord 60 = .ok (.ireturn, 1) := by decide +kernel
theorem dX9_tellChord_61 : decode cX9_tellChord 61 = .ok (.aload_n 0, 1) := by decide +kernel
theorem dX9_tellChord_62 : decode cX9_tellChord 62 = .ok (.iload_n 1, 1) := by decide +kernel
theorem dX9_tellChord_63 : decode cX9_tellChord 63 = .ok (.invokevirtual 264, 3) := by decide +kernel
theorem dX9_tellChord_66 : decode cX9_tellChord 66 = .ok (.ireturn, 1) := by decide +kernel
theorem dX9_tellChord_67 : decode cX9_tellChord 67 = .ok (.aload_n 0, 1) := by decide +kernel
theorem dX9_tellChord_68 : decode cX9_tellChord 68 = .ok (.iload_n 1, 1) := by decide +kernel
theorem dX9_tellChord_69 : decode cX9_tellChord 69 = .ok (.invokevirtual 267, 3) := by decide +kernel
theorem dX9_tellChord_72 : decode cX9_tellChord 72 = .ok (.ireturn, 1) := by decide +kernel
theorem dX9_tellChord_73 : decode cX9_tellChord 73 = .ok (.bipush (-102), 2) := by decide +kernel
theorem dX9_tellChord_75 : decode cX9_tellChord 75 = .ok (.ireturn, 1) := by decide +kernel
set_option maxRecDepth 20000 in
theorem ggX9_chord_X9_isChord : GoodIn wsX9_chord wsX9_isChord := goodIn_r _ [5, 6, 7, 8, 4, 9, 125, 126, 127, 128, 129, 130, 131, 132, 133, 134, 135, 136, 137, 138, 139, 140, 141, 142, 143, 144, 145, 146, 147, 148, 149, 150, 151, 152, 153, 154, 155, 156, 157, 158, 159, 160, 161, 162, 163, 164, 165, 166, 167, 168] (by decide +kernel) (by decide +kernel)
set_option maxRecDepth 20000 in
theorem gX9_chord_X9_isChord : GoodIn wsX9_chord (wsV RX9 241 RX9 yX9_isChord wsX9_isChord) := goodIn_app (goodIn_of _ (by decide +kernel)) ggX9_chord_X9_isChord
set_option maxRecDepth 20000 in
theorem ggX9_chord_X9_tellChord : GoodIn wsX9_chord wsX9_tellChord := goodIn_r _ [13, 14, 15, 16, 17, 18, 4, 19, 20, 21, 22, 23, 24, 25, 26, 27, 28, 6, 29, 30, 31, 32, 33, 34, 35, 36, 37, 38, 39, 40, 41, 42, 43, 44, 45, 46, 47, 48, 49, 50, 51, 52, 53, 54, 55, 56, 57, 58, 59, 60, 61, 62, 63, 64, 65, 66, 67, 68, 69, 70, 71, 72, 73, 74, 75, 76, 77, 78, 79, 80, 81, 82, 83, 84, 85, 86, 87, 88, 89, 90, 91, 92, 93, 94, 95, 96, 97, 98, 99, 100, 101, 102, 103, 104, 105, 106, 107, 108, 109, 110, 111, 112, 113, 114, 115, 116, 117, 118, 119, 120, 121, 122, 123, 124, 125, 126, 127, 128, 129, 130, 131, 132, 133, 134, 135, 136, 137, 138, 139, 140, 141, 142, 143, 144, 145, 146, 147, 148, 149, 150, 151, 152, 153, 154, 155, 156, 157, 158, 159, 160, 161, 162, 163, 164, 165, 166, 167, 168] (by decide +kernel) (by decide +kernel)
set_option maxRecDepth 20000 in
theorem gX9_chord_X9_tellChord : GoodIn wsX9_chord (wsV RX9 270 RX9 yX9_tellChord wsX9_tellChord) := goodIn_app (goodIn_of _ (by decide +kernel)) ggX9_chord_X9_tellChord
theorem dX9_chord_0 : decode cX9_chord 0 = .ok (.aload_n 0, 1) := by decide +kernel
theorem dX9_chord_1 : decode cX9_chord 1 = .ok (.iload_n 1, 1) := by decide +kernel
theorem dX9_chord_2 : decode cX9_chord 2 = .ok (.invokevirtual 241, 3) := by decide +kernel
theorem dX9_chord_5 : decode cX9_chord 5 = .ok (.ifCond .eq 12, 3) := by decide +kernel
theorem dX9_chord_8 : decode cX9_chord 8 = .ok (.aload_n 0, 1) := by decide +kernel
theorem dX9_chord_9 : decode cX9_chord 9 = .ok (.iload_n 1, 1) := by decide +kernel
theorem dX9_chord_10 : decode cX9_chord 10 = .ok (.iload_n 2, 1) := by decide +kernel
theorem dX9_chord_11 : decode cX9_chord 11 = .ok (.invokevirtual 270, 3) := by decide +kernel
theorem dX9_chord_14 : decode cX9_chord 14 = .ok (.goto 5, 3) := by decide +kernel
theorem dX9_chord_17 : decode cX9_chord 17 = .ok (.bipush (-101), 2) := by decide +kernel
theorem dX9_chord_19 : decode cX9_chord 19 = .ok (.ireturn, 1) := by decide +kernel
set_option maxRecDepth 20000 in
theorem ggX9_as_X9_isChord : GoodIn wsX9_as wsX9_isChord := goodIn_r _ [7, 8, 9, 10, 6, 11, 12, 13, 14, 15, 16, 17, 18, 19, 20, 21, 22, 23, 24, 25, 26, 27, 28, 29, 30, 31, 32, 33, 34, 35, 36, 37, 38, 39, 40, 41, 42, 43, 44, 45, 46, 47, 48, 49, 50, 51, 52, 53, 54, 55] (by decide +kernel) (by decide +kernel)
set_option maxRecDepth 20000 in
theorem gX9_as_X9_isChord : GoodIn wsX9_as (wsV RX9 241 RX9 yX9_isChord wsX9_isChord) := goodIn_app (goodIn_of _ (by decide +kernel)) ggX9_as_X9_isChord
set_option maxRecDepth 20000 in
theorem ggX9_as_X9_in : GoodIn wsX9_as wsX9_in := goodIn_r _ [11] (by decide +kernel) (by decide +kernel)
set_option maxRecDepth 20000 in
theorem gX9_as_X9_in : GoodIn wsX9_as (va_wsS RX9 102 yX9_in wsX9_in) := goodIn_app (goodIn_of _ (by decide +kernel)) ggX9_as_X9_in
theorem dX9_as_0 : decode cX9_as 0 = .ok (.aload_n 0, 1) := by decide +kernel
theorem dX9_as_1 : decode cX9_as 1 = .ok (.iload_n 1, 1) := by decide +kernel
theorem dX9_as_2 : decode cX9_as 2 = .ok (.invokevirtual 241, 3) := by decide +kernel
theorem dX9_as_5 : decode cX9_as 5 = .ok (.ifCond .ne 6, 3) := by decide +kernel
theorem dX9_as_8 : decode cX9_as 8 = .ok (.bipush (-101), 2) := by decide +kernel
theorem dX9_as_10 : decode cX9_as 10 = .ok (.ireturn, 1) := by decide +kernel
theorem dX9_as_11 : decode cX9_as 11 = .ok (.iload_n 2, 1) := by decide +kernel
theorem dX9_as_12 : decode cX9_as 12 = .ok (.i2l, 1) := by decide +kernel
theorem dX9_as_13 : decode cX9_as 13 = .ok (.lconst 0, 1) := by decide +kernel
theorem dX9_as_14 : decode cX9_as 14 = .ok (.ldc2_w 273, 3) := by decide +kernel
theorem dX9_as_17 : decode cX9_as 17 = .ok (.invokestatic 102, 3) := by decide +kernel
theorem dX9_as_20 : decode cX9_as 20 = .ok (.ifCond .ne 6, 3) := by decide +kernel
theorem dX9_as_23 : decode cX9_as 23 = .ok (.bipush (-102), 2) := by decide +kernel
theorem dX9_as_25 : decode cX9_as 25 = .ok (.ireturn, 1) := by decide +kernel
theorem dX9_as_26 : decode cX9_as 26 = .ok (.iload_n 2, 1) := by decide +kernel
theorem dX9_as_27 : decode cX9_as 27 = .ok (.ifCond .eq 28, 3) := by decide +kernel
theorem dX9_as_30 : decode cX9_as 30 = .ok (.iload_n 2, 1) := by decide +kernel
theorem dX9_as_31 : decode cX9_as 31 = .ok (.aload_n 0, 1) := by decide +kernel
theorem dX9_as_32 : decode cX9_as 32 = .ok (.getfield 50, 3) := by decide +kernel
theorem dX9_as_35 : decode cX9_as 35 = .ok (.iload_n 1, 1) := by decide +kernel
theorem dX9_as_36 : decode cX9_as 36 = .ok (.iaload, 1) := by decide +kernel
theorem dX9_as_37 : decode cX9_as 37 = .ok (.if_icmp .eq 18, 3) := by decide +kernel
theorem dX9_as_40 : decode cX9_as 40 = .ok (.iload_n 2, 1) := by decide +kernel
theorem dX9_as_41 : decode cX9_as 41 = .ok (.iconst 2, 1) := by decide +kernel
theorem dX9_as_42 : decode cX9_as 42 = .ok (.if_icmp .ne 17, 3) := by decide +kernel
theorem dX9_as_45 : decode cX9_as 45 = .ok (.aload_n 0, 1) := by decide +kernel
theorem dX9_as_46 : decode cX9_as 46 = .ok (.getfield 50, 3) := by decide +kernel
theorem dX9_as_49 : decode cX9_as 49 = .ok (.iload_n 1, 1) := by decide +kernel
theorem dX9_as_50 : decode cX9_as 50 = .ok (.iaload, 1) := by decide +kernel
theorem dX9_as_51 : decode cX9_as 51 = .ok (.iconst 4, 1) := by decide +kernel
theorem dX9_as_52 : decode cX9_as 52 = .ok (.if_icmp .ne 7, 3) := by decide +kernel
theorem dX9_as_55 : decode cX9_as 55 = .ok (.iconst 1, 1) := by decide +kernel
theorem dX9_as_56 : decode cX9_as 56 = .ok (.goto 4, 3) := by decide +kernel
theorem dX9_as_59 : decode cX9_as 59 = .ok (.iconst 0, 1) := by decide +kernel
theorem dX9_as_60 : decode cX9_as 60 = .ok (.istore_n 3, 1) := by decide +kernel
theorem dX9_as_61 : decode cX9_as 61 = .ok (.iload_n 3, 1) := by decide +kernel
theorem dX9_as_62 : decode cX9_as 62 = .ok (.ifCond .eq 7, 3) := by decide +kernel
theorem dX9_as_65 : decode cX9_as 65 = .ok (.iload_n 1, 1) := by decide +kernel
theorem dX9_as_66 : decode cX9_as 66 = .ok (.goto 4, 3) := by decide +kernel
theorem dX9_as_69 : decode cX9_as 69 = .ok (.iconst (-1), 1) := by decide +kernel
theorem dX9_as_70 : decode cX9_as 70 = .ok (.ireturn, 1) := by decide +kernel
set_option maxRecDepth 20000 in
theorem ggX9_press_X9_in : GoodIn wsX9_press wsX9_in := goodIn_r _ [9] (by decide +kernel) (by decide +kernel)
set_option maxRecDepth 20000 in
theorem gX9_press_X9_in : GoodIn wsX9_press (va_wsS RX9 102 yX9_in wsX9_in) := goodIn_app (goodIn_of _ (by decide +kernel)) ggX9_press_X9_in
set_option maxRecDepth 20000 in
theorem ggX9_press_X9_lacks : GoodIn wsX9_press wsX9_lacks := goodIn_r _ [13, 14, 23, 24, 25, 26, 27, 28, 29, 30, 31, 32, 33, 34, 35, 36, 37, 38, 39, 40, 41, 42, 43, 44, 45, 46, 47, 48, 49, 50, 51, 52, 53, 54, 55, 56, 57, 58, 59, 60, 61, 62, 63, 64, 65, 66] (by decide +kernel) (by decide +kernel)
set_option maxRecDepth 20000 in
theorem gX9_press_X9_lacks : GoodIn wsX9_press (wsV RX9 231 RX9 yX9_lacks wsX9_lacks) := goodIn_app (goodIn_of _ (by decide +kernel)) ggX9_press_X9_lacks
set_option maxRecDepth 20000 in
theorem ggX9_press_X9_positionOf : GoodIn wsX9_press wsX9_positionOf := goodIn_r _ [18, 4, 23, 24, 25, 26, 27, 28, 29, 30, 31, 32, 33, 34, 35, 36, 37, 38, 39, 40, 41, 42, 43, 44, 45, 46, 47, 48, 49, 50, 51, 52, 53, 54, 55, 56, 57, 58, 59, 60, 61, 62, 63, 64, 65, 66] (by decide +kernel) (by decide +kernel)
set_option maxRecDepth 20000 in
theorem gX9_press_X9_positionOf : GoodIn wsX9_press (wsV RX9 96 RX9 yX9_positionOf wsX9_positionOf) := goodIn_app (goodIn_of _ (by decide +kernel)) ggX9_press_X9_positionOf
set_option maxRecDepth 20000 in
theorem ggX9_press_X9_told : GoodIn wsX9_press wsX9_told := goodIn_r _ [22, 15, 16, 17, 8, 18, 4, 23, 24, 25, 26, 27, 28, 29, 30, 31, 32, 33, 34, 35, 36, 37, 38, 39, 40, 41, 42, 43, 44, 45, 46, 47, 48, 49, 50, 51, 52, 53, 54, 55, 56, 57, 58, 59, 60, 61, 62, 63, 64, 65, 66] (by decide +kernel) (by decide +kernel)
set_option maxRecDepth 20000 in
theorem gX9_press_X9_told : GoodIn wsX9_press (wsV RX9 238 RX9 yX9_told wsX9_told) := goodIn_app (goodIn_of _ (by decide +kernel)) ggX9_press_X9_told
theorem dX9_press_0 : decode cX9_press 0 = .ok (.iload_n 1, 1) := by decide +kernel
theorem dX9_press_1 : decode cX9_press 1 = .ok (.i2l, 1) := by decide +kernel
theorem dX9_press_2 : decode cX9_press 2 = .ok (.lconst 0, 1) := by decide +kernel
theorem dX9_press_3 : decode cX9_press 3 = .ok (.ldc2_w 100, 3) := by decide +kernel
theorem dX9_press_6 : decode cX9_press 6 = .ok (.invokestatic 102, 3) := by decide +kernel
theorem dX9_press_9 : decode cX9_press 9 = .ok (.ifCond .ne 6, 3) := by decide +kernel
theorem dX9_press_12 : decode cX9_press 12 = .ok (.bipush (-101), 2) := by decide +kernel
theorem dX9_press_14 : decode cX9_press 14 = .ok (.ireturn, 1) := by decide +kernel
theorem dX9_press_15 : decode cX9_press 15 = .ok (.iload_n 2, 1) := by decide +kernel
theorem dX9_press_16 : decode cX9_press 16 = .ok (.i2l, 1) := by decide +kernel
theorem dX9_press_17 : decode cX9_press 17 = .ok (.lconst 0, 1) := by decide +kernel
theorem dX9_press_18 : decode cX9_press 18 = .ok (.ldc2_w 106, 3) := by decide +kernel
theorem dX9_press_21 : decode cX9_press 21 = .ok (.invokestatic 102, 3) := by decide +kernel
theorem dX9_press_24 : decode cX9_press 24 = .ok (.ifCond .ne 6, 3) := by decide +kernel
theorem dX9_press_27 : decode cX9_press 27 = .ok (.bipush (-102), 2) := by decide +kernel
theorem dX9_press_29 : decode cX9_press 29 = .ok (.ireturn, 1) := by decide +kernel
theorem dX9_press_30 : decode cX9_press 30 = .ok (.aload_n 0, 1) := by decide +kernel
theorem dX9_press_31 : decode cX9_press 31 = .ok (.invokevirtual 231, 3) := by decide +kernel
theorem dX9_press_34 : decode cX9_press 34 = .ok (.ifCond .eq 6, 3) := by decide +kernel
theorem dX9_press_37 : decode cX9_press 37 = .ok (.bipush (-103), 2) := by decide +kernel
theorem dX9_press_39 : decode cX9_press 39 = .ok (.ireturn, 1) := by decide +kernel
theorem dX9_press_40 : decode cX9_press 40 = .ok (.aload_n 0, 1) := by decide +kernel
theorem dX9_press_41 : decode cX9_press 41 = .ok (.dup, 1) := by decide +kernel
theorem dX9_press_42 : decode cX9_press 42 = .ok (.getfield 152, 3) := by decide +kernel
theorem dX9_press_45 : decode cX9_press 45 = .ok (.iload_n 2, 1) := by decide +kernel
theorem dX9_press_46 : decode cX9_press 46 = .ok (.aload_n 0, 1) := by decide +kernel
theorem dX9_press_47 : decode cX9_press 47 = .ok (.aload_n 0, 1) := by decide +kernel
theorem dX9_press_48 : decode cX9_press 48 = .ok (.getfield 152, 3) := by decide +kernel
theorem dX9_press_51 : decode cX9_press 51 = .ok (.iload_n 1, 1) := by decide +kernel
theorem dX9_press_52 : decode cX9_press 52 = .ok (.invokevirtual 96, 3) := by decide +kernel
theorem dX9_press_55 : decode cX9_press 55 = .ok (.isub, 1) := by decide +kernel
theorem dX9_press_56 : decode cX9_press 56 = .ok (.aload_n 0, 1) := by decide +kernel
theorem dX9_press_57 : decode cX9_press 57 = .ok (.getfield 7, 3) := by decide +kernel
theorem dX9_press_60 : decode cX9_press 60 = .ok (.iload_n 1, 1) := by decide +kernel
theorem dX9_press_61 : decode cX9_press 61 = .ok (.iaload, 1) := by decide +kernel
theorem dX9_press_62 : decode cX9_press 62 = .ok (.imul, 1) := by decide +kernel
theorem dX9_press_63 : decode cX9_press 63 = .ok (.iadd, 1) := by decide +kernel
theorem dX9_press_64 : decode cX9_press 64 = .ok (.putfield 152, 3) := by decide +kernel
theorem dX9_press_67 : decode cX9_press 67 = .ok (.aload_n 0, 1) := by decide +kernel
theorem dX9_press_68 : decode cX9_press 68 = .ok (.iconst 1, 1) := by decide +kernel
theorem dX9_press_69 : decode cX9_press 69 = .ok (.putfield 168, 3) := by decide +kernel
theorem dX9_press_72 : decode cX9_press 72 = .ok (.aload_n 0, 1) := by decide +kernel
theorem dX9_press_73 : decode cX9_press 73 = .ok (.aload_n 0, 1) := by decide +kernel
theorem dX9_press_74 : decode cX9_press 74 = .ok (.getfield 152, 3) := by decide +kernel
theorem dX9_press_77 : decode cX9_press 77 = .ok (.invokevirtual 238, 3) := by decide +kernel
theorem dX9_press_80 : decode cX9_press 80 = .ok (.ireturn, 1) := by decide +kernel
set_option maxRecDepth 20000 in
theorem ggX9_put_X9_in : GoodIn wsX9_put wsX9_in := goodIn_r _ [10] (by decide +kernel) (by decide +kernel)
set_option maxRecDepth 20000 in
theorem gX9_put_X9_in : GoodIn wsX9_put (va_wsS RX9 102 yX9_in wsX9_in) := goodIn_app (goodIn_of _ (by decide +kernel)) ggX9_put_X9_in
set_option maxRecDepth 20000 in
theorem ggX9_put_X9_ones : GoodIn wsX9_put wsX9_ones := goodIn_r _ [13] (by decide +kernel) (by decide +kernel)
set_option maxRecDepth 20000 in
theorem gX9_put_X9_ones : GoodIn wsX9_put (va_wsS RX9 277 yX9_ones wsX9_ones) := goodIn_app (goodIn_of _ (by decide +kernel)) ggX9_put_X9_ones
set_option maxRecDepth 20000 in
theorem ggX9_put_X9_lacks : GoodIn wsX9_put wsX9_lacks := goodIn_r _ [17, 1, 18, 19, 20, 21, 22, 23, 24, 25, 26, 27, 28, 29, 30, 31, 32, 33, 34, 35, 36, 37, 38, 39, 40, 41, 42, 43, 44, 45, 46, 47, 48, 49, 50, 51, 52, 53, 54, 55, 56, 57, 58, 59, 60, 61] (by decide +kernel) (by decide +kernel)
set_option maxRecDepth 20000 in
theorem gX9_put_X9_lacks : GoodIn wsX9_put (wsV RX9 231 RX9 yX9_lacks wsX9_lacks) := goodIn_app (goodIn_of _ (by decide +kernel)) ggX9_put_X9_lacks
theorem dX9_put_0 : decode cX9_put 0 = .ok (.iload_n 1, 1) := by decide +kernel
theorem dX9_put_1 : decode cX9_put 1 = .ok (.i2l, 1) := by decide +kernel
theorem dX9_put_2 : decode cX9_put 2 = .ok (.lconst 0, 1) := by decide +kernel
theorem dX9_put_3 : decode cX9_put 3 = .ok (.aload_n 0, 1) := by decide +kernel
theorem dX9_put_4 : decode cX9_put 4 = .ok (.getfield 155, 3) := by decide +kernel
theorem dX9_put_7 : decode cX9_put 7 = .ok (.i2l, 1) := by decide +kernel
theorem dX9_put_8 : decode cX9_put 8 = .ok (.invokestatic 102, 3) := by decide +kernel
theorem dX9_put_11 : decode cX9_put 11 = .ok (.ifCond .ne 6, 3) := by decide +kernel
theorem dX9_put_14 : decode cX9_put 14 = .ok (.bipush (-101), 2) := by decide +kernel
theorem dX9_put_16 : decode cX9_put 16 = .ok (.ireturn, 1) := by decide +kernel
theorem dX9_put_17 : decode cX9_put 17 = .ok (.iload_n 2, 1) := by decide +kernel
theorem dX9_put_18 : decode cX9_put 18 = .ok (.i2l, 1) := by decide +kernel
theorem dX9_put_19 : decode cX9_put 19 = .ok (.lconst 0, 1) := by decide +kernel
theorem dX9_put_20 : decode cX9_put 20 = .ok (.ldc2_w 273, 3) := by decide +kernel
theorem dX9_put_23 : decode cX9_put 23 = .ok (.invokestatic 102, 3) := by decide +kernel
theorem dX9_put_26 : decode cX9_put 26 = .ok (.ifCond .eq 23, 3) := by decide +kernel
theorem dX9_put_29 : decode cX9_put 29 = .ok (.iload_n 3, 1) := by decide +kernel
theorem dX9_put_30 : decode cX9_put 30 = .ok (.i2l, 1) := by decide +kernel
theorem dX9_put_31 : decode cX9_put 31 = .ok (.lconst 1, 1) := by decide +kernel
theorem dX9_put_32 : decode cX9_put 32 = .ok (.ldc2_w 275, 3) := by decide +kernel
theorem dX9_put_35 : decode cX9_put 35 = .ok (.invokestatic 102, 3) := by decide +kernel
theorem dX9_put_38 : decode cX9_put 38 = .ok (.ifCond .eq 11, 3) := by decide +kernel
theorem dX9_put_41 : decode cX9_put 41 = .ok (.iload_n 3, 1) := by decide +kernel
theorem dX9_put_42 : decode cX9_put 42 = .ok (.invokestatic 277, 3) := by decide +kernel
theorem dX9_put_45 : decode cX9_put 45 = .ok (.iconst 4, 1) := by decide +kernel
theorem dX9_put_46 : decode cX9_put 46 = .ok (.if_icmp .le 6, 3) := by decide +kernel
theorem dX9_put_49 : decode cX9_put 49 = .ok (.bipush (-102), 2) := by decide +kernel
theorem dX9_put_51 : decode cX9_put 51 = .ok (.ireturn, 1) := by decide +kernel
theorem dX9_put_52 : decode cX9_put 52 = .ok (.aload_n 0, 1) := by decide +kernel
theorem dX9_put_53 : decode cX9_put 53 = .ok (.invokevirtual 231, 3) := by decide +kernel
theorem dX9_put_56 : decode cX9_put 56 = .ok (.ifCond .eq 6, 3) := by decide +kernel
theorem dX9_put_59 : decode cX9_put 59 = .ok (.bipush (-103), 2) := by decide +kernel
theorem dX9_put_61 : decode cX9_put 61 = .ok (.ireturn, 1) := by decide +kernel
theorem dX9_put_62 : decode cX9_put 62 = .ok (.aload_n 0, 1) := by decide +kernel
theorem dX9_put_63 : decode cX9_put 63 = .ok (.getfield 155, 3) := by decide +kernel
theorem dX9_put_66 : decode cX9_put 66 = .ok (.bipush 8, 2) := by decide +kernel
theorem dX9_put_68 : decode cX9_put 68 = .ok (.if_icmp .ne 6, 3) := by decide +kernel
theorem dX9_put_71 : decode cX9_put 71 = .ok (.bipush (-104), 2) := by decide +kernel
theorem dX9_put_73 : decode cX9_put 73 = .ok (.ireturn, 1) := by decide +kernel
theorem dX9_put_74 : decode cX9_put 74 = .ok (.aload_n 0, 1) := by decide +kernel
theorem dX9_put_75 : decode cX9_put 75 = .ok (.getfield 155, 3) := by decide +kernel
theorem dX9_put_78 : decode cX9_put 78 = .ok (.istore 4, 2) := by decide +kernel
theorem dX9_put_80 : decode cX9_put 80 = .ok (.iload 4, 2) := by decide +kernel
theorem dX9_put_82 : decode cX9_put 82 = .ok (.iload_n 1, 1) := by decide +kernel
theorem dX9_put_83 : decode cX9_put 83 = .ok (.if_icmp .le 41, 3) := by decide +kernel
theorem dX9_put_86 : decode cX9_put 86 = .ok (.aload_n 0, 1) := by decide +kernel
theorem dX9_put_87 : decode cX9_put 87 = .ok (.getfield 50, 3) := by decide +kernel
theorem dX9_put_90 : decode cX9_put 90 = .ok (.iload 4, 2) := by decide +kernel
theorem dX9_put_92 : decode cX9_put 92 = .ok (.aload_n 0, 1) := by decide +kernel
theorem dX9_put_93 : decode cX9_put 93 = .ok (.getfield 50, 3) := by decide +kernel
theorem dX9_put_96 : decode cX9_put 96 = .ok (.iload 4, 2) := by decide +kernel
theorem dX9_put_98 : decode cX9_put 98 = .ok (.iconst 1, 1) := by decide +kernel
theorem dX9_put_99 : decode cX9_put 99 = .ok (.isub, 1) := by decide +kernel
theorem dX9_put_100 : decode cX9_put 100 = .ok (.iaload, 1) := by decide +kernel
theorem dX9_put_101 : decode cX9_put 101 = .ok (.iastore, 1) := by decide +kernel
theorem dX9_put_102 : decode cX9_put 102 = .ok (.aload_n 0, 1) := by decide +kernel
theorem dX9_put_103 : decode cX9_put 103 = .ok (.getfield 53, 3) := by decide +kernel
theorem dX9_put_106 : decode cX9_put 106 = .ok (.iload 4, 2) := by decide +kernel
theorem dX9_put_108 : decode cX9_put 108 = .ok (.aload_n 0, 1) := by decide +kernel
theorem dX9_put_109 : decode cX9_put 109 = .ok (.getfield 53, 3) := by decide +kernel
theorem dX9_put_112 : decode cX9_put 112 = .ok (.iload 4, 2) := by decide +kernel
theorem dX9_put_114 : decode cX9_put 114 = .ok (.iconst 1, 1) := by decide +kernel
theorem dX9_put_115 : decode cX9_put 115 = .ok (.isub, 1) := by decide +kernel
theorem dX9_put_116 : decode cX9_put 116 = .ok (.iaload, 1) := by decide +kernel
theorem dX9_put_117 : decode cX9_put 117 = .ok (.iastore, 1) := by decide +kernel
theorem dX9_put_118 : decode cX9_put 118 = .ok (.iinc 4 (-1), 3) := by decide +kernel
theorem dX9_put_121 : decode cX9_put 121 = .ok (.goto (-41), 3) := by decide +kernel
theorem dX9_put_124 : decode cX9_put 124 = .ok (.aload_n 0, 1) := by decide +kernel
theorem dX9_put_125 : decode cX9_put 125 = .ok (.getfield 50, 3) := by decide +kernel
theorem dX9_put_128 : decode cX9_put 128 = .ok (.iload_n 1, 1) := by decide +kernel
theorem dX9_put_129 : decode cX9_put 129 = .ok (.iload_n 2, 1) := by decide +kernel
theorem dX9_put_130 : decode cX9_put 130 = .ok (.iastore, 1) := by decide +kernel
theorem dX9_put_131 : decode cX9_put 131 = .ok (.aload_n 0, 1) := by decide +kernel
theorem dX9_put_132 : decode cX9_put 132 = .ok (.getfield 53, 3) := by decide +kernel
theorem dX9_put_135 : decode cX9_put 135 = .ok (.iload_n 1, 1) := by decide +kernel
theorem dX9_put_136 : decode cX9_put 136 = .ok (.iload_n 3, 1) := by decide +kernel
theorem dX9_put_137 : decode cX9_put 137 = .ok (.iastore, 1) := by decide +kernel
theorem dX9_put_138 : decode cX9_put 138 = .ok (.aload_n 0, 1) := by decide +kernel
theorem dX9_put_139 : decode cX9_put 139 = .ok (.dup, 1) := by decide +kernel
theorem dX9_put_140 : decode cX9_put 140 = .ok (.getfield 155, 3) := by decide +kernel
theorem dX9_put_143 : decode cX9_put 143 = .ok (.iconst 1, 1) := by decide +kernel
theorem dX9_put_144 : decode cX9_put 144 = .ok (.iadd, 1) := by decide +kernel
theorem dX9_put_145 : decode cX9_put 145 = .ok (.putfield 155, 3) := by decide +kernel
theorem dX9_put_148 : decode cX9_put 148 = .ok (.aload_n 0, 1) := by decide +kernel
theorem dX9_put_149 : decode cX9_put 149 = .ok (.iconst 1, 1) := by decide +kernel
theorem dX9_put_150 : decode cX9_put 150 = .ok (.putfield 168, 3) := by decide +kernel
theorem dX9_put_153 : decode cX9_put 153 = .ok (.aload_n 0, 1) := by decide +kernel
theorem dX9_put_154 : decode cX9_put 154 = .ok (.getfield 155, 3) := by decide +kernel
theorem dX9_put_157 : decode cX9_put 157 = .ok (.ireturn, 1) := by decide +kernel
set_option maxRecDepth 20000 in
theorem ggX9_take_X9_isChord : GoodIn wsX9_take wsX9_isChord := goodIn_r _ [9, 1, 10, 11, 8, 12, 13, 14, 15, 16, 17, 18, 19, 20, 21, 22, 23, 24, 25, 26, 27, 28, 29, 30, 31, 32, 33, 34, 35, 36, 37, 38, 39, 40, 41, 42, 43, 44, 45, 46, 47, 48, 49, 50, 51, 52, 53, 54, 55, 56] (by decide +kernel) (by decide +kernel)
set_option maxRecDepth 20000 in
theorem gX9_take_X9_isChord : GoodIn wsX9_take (wsV RX9 241 RX9 yX9_isChord wsX9_isChord) := goodIn_app (goodIn_of _ (by decide +kernel)) ggX9_take_X9_isChord
theorem dX9_take_0 : decode cX9_take 0 = .ok (.aload_n 0, 1) := by decide +kernel
theorem dX9_take_1 : decode cX9_take 1 = .ok (.iload_n 1, 1) := by decide +kernel
theorem dX9_take_2 : decode cX9_take 2 = .ok (.invokevirtual 241, 3) := by decide +kernel
theorem dX9_take_5 : decode cX9_take 5 = .ok (.ifCond .ne 6, 3) := by decide +kernel
theorem dX9_take_8 : decode cX9_take 8 = .ok (.bipush (-101), 2) := by decide +kernel
theorem dX9_take_10 : decode cX9_take 10 = .ok (.ireturn, 1) := by decide +kernel
theorem dX9_take_11 : decode cX9_take 11 = .ok (.aload_n 0, 1) := by decide +kernel
theorem dX9_take_12 : decode cX9_take 12 = .ok (.getfield 155, 3) := by decide +kernel
theorem dX9_take_15 : decode cX9_take 15 = .ok (.iconst 1, 1) := by decide +kernel
theorem dX9_take_16 : decode cX9_take 16 = .ok (.if_icmp .ne 6, 3) := by decide +kernel
theorem dX9_take_19 : decode cX9_take 19 = .ok (.bipush (-103), 2) := by decide +kernel
theorem dX9_take_21 : decode cX9_take 21 = .ok (.ireturn, 1) := by decide +kernel
theorem dX9_take_22 : decode cX9_take 22 = .ok (.aload_n 0, 1) := by decide +kernel
theorem dX9_take_23 : decode cX9_take 23 = .ok (.dup, 1) := by decide +kernel
theorem dX9_take_24 : decode cX9_take 24 = .ok (.getfield 155, 3) := by decide +kernel
theorem dX9_take_27 : decode cX9_take 27 = .ok (.iconst 1, 1) := by decide +kernel
theorem dX9_take_28 : decode cX9_take 28 = .ok (.isub, 1) := by decide +kernel
theorem dX9_take_29 : decode cX9_take 29 = .ok (.putfield 155, 3) := by decide +kernel
theorem dX9_take_32 : decode cX9_take 32 = .ok (.iload_n 1, 1) := by decide +kernel
theorem dX9_take_33 : decode cX9_take 33 = .ok (.istore_n 2, 1) := by decide +kernel
theorem dX9_take_34 : decode cX9_take 34 = .ok (.iload_n 2, 1) := by decide +kernel
theorem dX9_take_35 : decode cX9_take 35 = .ok (.aload_n 0, 1) := by decide +kernel
theorem dX9_take_36 : decode cX9_take 36 = .ok (.getfield 155, 3) := by decide +kernel
theorem dX9_take_39 : decode cX9_take 39 = .ok (.if_icmp .ge 37, 3) := by decide +kernel
theorem dX9_take_42 : decode cX9_take 42 = .ok (.aload_n 0, 1) := by decide +kernel
theorem dX9_take_43 : decode cX9_take 43 = .ok (.getfield 50, 3) := by decide +kernel
theorem dX9_take_46 : decode cX9_take 46 = .ok (.iload_n 2, 1) := by decide +kernel
theorem dX9_take_47 : decode cX9_take 47 = .ok (.aload_n 0, 1) := by decide +kernel
theorem dX9_take_48 : decode cX9_take 48 = .ok (.getfield 50, 3) := by decide +kernel
theorem dX9_take_51 : decode cX9_take 51 = .ok (.iload_n 2, 1) := by decide +kernel
theorem dX9_take_52 : decode cX9_take 52 = .ok (.iconst 1, 1) := by decide +kernel
theorem dX9_take_53 : decode cX9_take 53 = .ok (.iadd, 1) := by decide +kernel
theorem dX9_take_54 : decode cX9_take 54 = .ok (.iaload, 1) := by decide +kernel
theorem dX9_take_55 : decode cX9_take 55 = .ok (.iastore, 1) := by decide +kernel
theorem dX9_take_56 : decode cX9_take 56 = .ok (.aload_n 0, 1) := by decide +kernel
theorem dX9_take_57 : decode cX9_take 57 = .ok (.getfield 53, 3) := by decide +kernel
theorem dX9_take_60 : decode cX9_take 60 = .ok (.iload_n 2, 1) := by decide +kernel
theorem dX9_take_61 : decode cX9_take 61 = .ok (.aload_n 0, 1) := by decide +kernel
theorem dX9_take_62 : decode cX9_take 62 = .ok (.getfield 53, 3) := by decide +kernel
theorem dX9_take_65 : decode cX9_take 65 = .ok (.iload_n 2, 1) := by decide +kernel
theorem dX9_take_66 : decode cX9_take 66 = .ok (.iconst 1, 1) := by decide +kernel
theorem dX9_take_67 : decode cX9_take 67 = .ok (.iadd, 1) := by decide +kernel
theorem dX9_take_68 : decode cX9_take 68 = .ok (.iaload, 1) := by decide +kernel
theorem dX9_take_69 : decode cX9_take 69 = .ok (.iastore, 1) := by decide +kernel
theorem dX9_take_70 : decode cX9_take 70 = .ok (.iinc 2 1, 3) := by decide +kernel
theorem dX9_take_73 : decode cX9_take 73 = .ok (.goto (-39), 3) := by decide +kernel
theorem dX9_take_76 : decode cX9_take 76 = .ok (.aload_n 0, 1) := by decide +kernel
theorem dX9_take_77 : decode cX9_take 77 = .ok (.iconst 1, 1) := by decide +kernel
theorem dX9_take_78 : decode cX9_take 78 = .ok (.putfield 168, 3) := by decide +kernel
theorem dX9_take_81 : decode cX9_take 81 = .ok (.aload_n 0, 1) := by decide +kernel
theorem dX9_take_82 : decode cX9_take 82 = .ok (.getfield 155, 3) := by decide +kernel
theorem dX9_take_85 : decode cX9_take 85 = .ok (.ireturn, 1) := by decide +kernel
set_option maxRecDepth 20000 in
theorem ggX9_swap_X9_isChord : GoodIn wsX9_swap wsX9_isChord := goodIn_r _ [8, 9, 10, 11, 7, 12, 96, 97, 98, 99, 100, 101, 102, 103, 104, 105, 106, 107, 108, 109, 110, 111, 112, 113, 114, 115, 116, 117, 118, 119, 120, 121, 122, 123, 124, 125, 126, 127, 128, 129, 130, 131, 132, 133, 134, 135, 136, 137, 138, 139] (by decide +kernel) (by decide +kernel)
set_option maxRecDepth 20000 in
theorem gX9_swap_X9_isChord : GoodIn wsX9_swap (wsV RX9 241 RX9 yX9_isChord wsX9_isChord) := goodIn_app (goodIn_of _ (by decide +kernel)) ggX9_swap_X9_isChord
set_option maxRecDepth 20000 in
theorem ggX9_swap_X9_planOf : GoodIn wsX9_swap wsX9_planOf := goodIn_r _ [16, 17, 18, 19, 20, 21, 22, 23, 7, 24, 3, 25, 9, 26, 27, 28, 29, 30, 31, 32, 33, 34, 35, 36, 37, 38, 39, 2, 1, 40, 41, 42, 43, 44, 45, 46, 47, 48, 49, 50, 51, 52, 53, 54, 55, 56, 57, 58, 59, 60, 61, 62, 63, 64, 65, 66, 67, 68, 69, 70, 71, 72, 73, 74, 75, 76, 77, 78, 79, 80, 81, 82, 83, 84, 85, 86, 87, 88, 89, 90, 91, 92, 93, 94, 95, 96, 97, 98, 99, 100, 101, 102, 103, 104, 105, 106, 107, 108, 109, 110, 111, 112, 113, 114, 115, 116, 117, 118, 119, 120, 121, 122, 123, 124, 125, 126, 127, 128, 129, 130, 131, 132, 133, 134, 135, 136, 137, 138, 139] (by decide +kernel) (by decide +kernel)
set_option maxRecDepth 20000 in
theorem gX9_swap_X9_planOf : GoodIn wsX9_swap (wsV RX9 235 RX9 yX9_planOf wsX9_planOf) := goodIn_app (goodIn_of _ (by decide +kernel)) ggX9_swap_X9_planOf
theorem dX9_swap_0 : decode cX9_swap 0 = .ok (.aload_n 0, 1) := by decide +kernel
theorem dX9_swap_1 : decode cX9_swap 1 = .ok (.iload_n 1, 1) := by decide +kernel
theorem dX9_swap_2 : decode cX9_swap 2 = .ok (.invokevirtual 241, 3) := by decide +kernel
theorem dX9_swap_5 : decode cX9_swap 5 = .ok (.ifCond .eq 16, 3) := by decide +kernel
theorem dX9_swap_8 : decode cX9_swap 8 = .ok (.aload_n 0, 1) := by decide +kernel
theorem dX9_swap_9 : decode cX9_swap 9 = .ok (.iload_n 2, 1) := by decide +kernel
theorem dX9_swap_10 : decode cX9_swap 10 = .ok (.invokevirtual 241, 3) := by decide +kernel
theorem dX9_swap_13 : decode cX9_swap 13 = .ok (.ifCond .eq 8, 3) := by decide +kernel
theorem dX9_swap_16 : decode cX9_swap 16 = .ok (.iload_n 1, 1) := by decide +kernel
theorem dX9_swap_17 : decode cX9_swap 17 = .ok (.iload_n 2, 1) := by decide +kernel
theorem dX9_swap_18 : decode cX9_swap 18 = .ok (.if_icmp .ne 6, 3) := by decide +kernel
theorem dX9_swap_21 : decode cX9_swap 21 = .ok (.bipush (-101), 2) := by decide +kernel
theorem dX9_swap_23 : decode cX9_swap 23 = .ok (.ireturn, 1) := by decide +kernel
theorem dX9_swap_24 : decode cX9_swap 24 = .ok (.aload_n 0, 1) := by decide +kernel
theorem dX9_swap_25 : decode cX9_swap 25 = .ok (.getfield 50, 3) := by decide +kernel
theorem dX9_swap_28 : decode cX9_swap 28 = .ok (.iload_n 1, 1) := by decide +kernel
theorem dX9_swap_29 : decode cX9_swap 29 = .ok (.iaload, 1) := by decide +kernel
theorem dX9_swap_30 : decode cX9_swap 30 = .ok (.istore_n 3, 1) := by decide +kernel
theorem dX9_swap_31 : decode cX9_swap 31 = .ok (.aload_n 0, 1) := by decide +kernel
theorem dX9_swap_32 : decode cX9_swap 32 = .ok (.getfield 53, 3) := by decide +kernel
theorem dX9_swap_35 : decode cX9_swap 35 = .ok (.iload_n 1, 1) := by decide +kernel
theorem dX9_swap_36 : decode cX9_swap 36 = .ok (.iaload, 1) := by decide +kernel
theorem dX9_swap_37 : decode cX9_swap 37 = .ok (.istore 4, 2) := by decide +kernel
theorem dX9_swap_39 : decode cX9_swap 39 = .ok (.aload_n 0, 1) := by decide +kernel
theorem dX9_swap_40 : decode cX9_swap 40 = .ok (.getfield 50, 3) := by decide +kernel
theorem dX9_swap_43 : decode cX9_swap 43 = .ok (.iload_n 1, 1) := by decide +kernel
theorem dX9_swap_44 : decode cX9_swap 44 = .ok (.aload_n 0, 1) := by decide +kernel
theorem dX9_swap_45 : decode cX9_swap 45 = .ok (.getfield 50, 3) := by decide +kernel
theorem dX9_swap_48 : decode cX9_swap 48 = .ok (.iload_n 2, 1) := by decide +kernel
theorem dX9_swap_49 : decode cX9_swap 49 = .ok (.iaload, 1) := by decide +kernel
theorem dX9_swap_50 : decode cX9_swap 50 = .ok (.iastore, 1) := by decide +kernel
theorem dX9_swap_51 : decode cX9_swap 51 = .ok (.aload_n 0, 1) := by decide +kernel
theorem dX9_swap_52 : decode cX9_swap 52 = .ok (.getfield 53, 3) := by decide +kernel
theorem dX9_swap_55 : decode cX9_swap 55 = .ok (.iload_n 1, 1) := by decide +kernel
theorem dX9_swap_56 : decode cX9_swap 56 = .ok (.aload_n 0, 1) := by decide +kernel
theorem dX9_swap_57 : decode cX9_swap 57 = .ok (.getfield 53, 3) := by decide +kernel
theorem dX9_swap_60 : decode cX9_swap 60 = .ok (.iload_n 2, 1) := by decide +kernel
theorem dX9_swap_61 : decode cX9_swap 61 = .ok (.iaload, 1) := by decide +kernel
theorem dX9_swap_62 : decode cX9_swap 62 = .ok (.iastore, 1) := by decide +kernel
theorem dX9_swap_63 : decode cX9_swap 63 = .ok (.aload_n 0, 1) := by decide +kernel
theorem dX9_swap_64 : decode cX9_swap 64 = .ok (.getfield 50, 3) := by decide +kernel
theorem dX9_swap_67 : decode cX9_swap 67 = .ok (.iload_n 2, 1) := by decide +kernel
theorem dX9_swap_68 : decode cX9_swap 68 = .ok (.iload_n 3, 1) := by decide +kernel
theorem dX9_swap_69 : decode cX9_swap 69 = .ok (.iastore, 1) := by decide +kernel
theorem dX9_swap_70 : decode cX9_swap 70 = .ok (.aload_n 0, 1) := by decide +kernel
theorem dX9_swap_71 : decode cX9_swap 71 = .ok (.getfield 53, 3) := by decide +kernel
theorem dX9_swap_74 : decode cX9_swap 74 = .ok (.iload_n 2, 1) := by decide +kernel
theorem dX9_swap_75 : decode cX9_swap 75 = .ok (.iload 4, 2) := by decide +kernel
theorem dX9_swap_77 : decode cX9_swap 77 = .ok (.iastore, 1) := by decide +kernel
theorem dX9_swap_78 : decode cX9_swap 78 = .ok (.aload_n 0, 1) := by decide +kernel
theorem dX9_swap_79 : decode cX9_swap 79 = .ok (.iconst 1, 1) := by decide +kernel
theorem dX9_swap_80 : decode cX9_swap 80 = .ok (.putfield 168, 3) := by decide +kernel
theorem dX9_swap_83 : decode cX9_swap 83 = .ok (.aload_n 0, 1) := by decide +kernel
theorem dX9_swap_84 : decode cX9_swap 84 = .ok (.iconst 0, 1) := by decide +kernel
theorem dX9_swap_85 : decode cX9_swap 85 = .ok (.invokevirtual 235, 3) := by decide +kernel
theorem dX9_swap_88 : decode cX9_swap 88 = .ok (.ireturn, 1) := by decide +kernel
set_option maxRecDepth 20000 in
theorem ggX9_change_X9_isChord : GoodIn wsX9_change wsX9_isChord := goodIn_r _ [8, 9, 10, 11, 7, 12, 13, 14, 15, 16, 17, 18, 19, 20, 21, 22, 23, 24, 25, 26, 27, 28, 29, 30, 31, 32, 33, 34, 35, 36, 37, 38, 39, 40, 41, 42, 43, 44, 45, 46, 47, 48, 49, 50, 51, 52, 53, 54, 55, 56] (by decide +kernel) (by decide +kernel)
set_option maxRecDepth 20000 in
theorem gX9_change_X9_isChord : GoodIn wsX9_change (wsV RX9 241 RX9 yX9_isChord wsX9_isChord) := goodIn_app (goodIn_of _ (by decide +kernel)) ggX9_change_X9_isChord
set_option maxRecDepth 20000 in
theorem ggX9_change_X9_in : GoodIn wsX9_change wsX9_in := goodIn_r _ [12] (by decide +kernel) (by decide +kernel)
set_option maxRecDepth 20000 in
theorem gX9_change_X9_in : GoodIn wsX9_change (va_wsS RX9 102 yX9_in wsX9_in) := goodIn_app (goodIn_of _ (by decide +kernel)) ggX9_change_X9_in
theorem dX9_change_0 : decode cX9_change 0 = .ok (.aload_n 0, 1) := by decide +kernel
theorem dX9_change_1 : decode cX9_change 1 = .ok (.iload_n 1, 1) := by decide +kernel
theorem dX9_change_2 : decode cX9_change 2 = .ok (.invokevirtual 241, 3) := by decide +kernel
theorem dX9_change_5 : decode cX9_change 5 = .ok (.ifCond .ne 6, 3) := by decide +kernel
theorem dX9_change_8 : decode cX9_change 8 = .ok (.bipush (-101), 2) := by decide +kernel
theorem dX9_change_10 : decode cX9_change 10 = .ok (.ireturn, 1) := by decide +kernel
theorem dX9_change_11 : decode cX9_change 11 = .ok (.iload_n 2, 1) := by decide +kernel
theorem dX9_change_12 : decode cX9_change 12 = .ok (.i2l, 1) := by decide +kernel
theorem dX9_change_13 : decode cX9_change 13 = .ok (.lconst 0, 1) := by decide +kernel
theorem dX9_change_14 : decode cX9_change 14 = .ok (.ldc2_w 273, 3) := by decide +kernel
theorem dX9_change_17 : decode cX9_change 17 = .ok (.invokestatic 102, 3) := by decide +kernel
theorem dX9_change_20 : decode cX9_change 20 = .ok (.ifCond .ne 6, 3) := by decide +kernel
theorem dX9_change_23 : decode cX9_change 23 = .ok (.bipush (-102), 2) := by decide +kernel
theorem dX9_change_25 : decode cX9_change 25 = .ok (.ireturn, 1) := by decide +kernel
theorem dX9_change_26 : decode cX9_change 26 = .ok (.aload_n 0, 1) := by decide +kernel
theorem dX9_change_27 : decode cX9_change 27 = .ok (.getfield 50, 3) := by decide +kernel
theorem dX9_change_30 : decode cX9_change 30 = .ok (.iload_n 1, 1) := by decide +kernel
theorem dX9_change_31 : decode cX9_change 31 = .ok (.iaload, 1) := by decide +kernel
theorem dX9_change_32 : decode cX9_change 32 = .ok (.istore_n 3, 1) := by decide +kernel
theorem dX9_change_33 : decode cX9_change 33 = .ok (.aload_n 0, 1) := by decide +kernel
theorem dX9_change_34 : decode cX9_change 34 = .ok (.getfield 50, 3) := by decide +kernel
theorem dX9_change_37 : decode cX9_change 37 = .ok (.iload_n 1, 1) := by decide +kernel
theorem dX9_change_38 : decode cX9_change 38 = .ok (.iload_n 2, 1) := by decide +kernel
theorem dX9_change_39 : decode cX9_change 39 = .ok (.iastore, 1) := by decide +kernel
theorem dX9_change_40 : decode cX9_change 40 = .ok (.aload_n 0, 1) := by decide +kernel
theorem dX9_change_41 : decode cX9_change 41 = .ok (.iconst 1, 1) := by decide +kernel
theorem dX9_change_42 : decode cX9_change 42 = .ok (.putfield 168, 3) := by decide +kernel
theorem dX9_change_45 : decode cX9_change 45 = .ok (.iload_n 3, 1) := by decide +kernel
theorem dX9_change_46 : decode cX9_change 46 = .ok (.ireturn, 1) := by decide +kernel
set_option maxRecDepth 20000 in
theorem ggX9_shift_X9_in : GoodIn wsX9_shift wsX9_in := goodIn_r _ [8] (by decide +kernel) (by decide +kernel)
set_option maxRecDepth 20000 in
theorem gX9_shift_X9_in : GoodIn wsX9_shift (va_wsS RX9 102 yX9_in wsX9_in) := goodIn_app (goodIn_of _ (by decide +kernel)) ggX9_shift_X9_in
set_option maxRecDepth 20000 in
theorem ggX9_shift_X9_lacks : GoodIn wsX9_shift wsX9_lacks := goodIn_r _ [12, 2, 97, 98, 99, 100, 101, 102, 103, 104, 105, 106, 107, 108, 109, 110, 111, 112, 113, 114, 115, 116, 117, 118, 119, 120, 121, 122, 123, 124, 125, 126, 127, 128, 129, 130, 131, 132, 133, 134, 135, 136, 137, 138, 139, 140] (by decide +kernel) (by decide +kernel)
set_option maxRecDepth 20000 in
theorem gX9_shift_X9_lacks : GoodIn wsX9_shift (wsV RX9 231 RX9 yX9_lacks wsX9_lacks) := goodIn_app (goodIn_of _ (by decide +kernel)) ggX9_shift_X9_lacks
set_option maxRecDepth 20000 in
theorem ggX9_shift_X9_shiftedTones : GoodIn wsX9_shift wsX9_shiftedTones := goodIn_r _ [16] (by decide +kernel) (by decide +kernel)
set_option maxRecDepth 20000 in
theorem gX9_shift_X9_shiftedTones : GoodIn wsX9_shift (wsV RX9 172 RX9 yX9_shiftedTones wsX9_shiftedTones) := goodIn_app (goodIn_of _ (by decide +kernel)) ggX9_shift_X9_shiftedTones
set_option maxRecDepth 20000 in
theorem ggX9_shift_X9_planOf : GoodIn wsX9_shift wsX9_planOf := goodIn_r _ [20, 21, 22, 23, 24, 25, 26, 27, 7, 28, 4, 29, 2, 30, 31, 32, 33, 34, 35, 36, 37, 38, 39, 40, 41, 42, 43, 3, 44, 13, 14, 15, 16, 45, 46, 47, 48, 49, 50, 51, 52, 53, 54, 55, 56, 57, 58, 59, 60, 61, 62, 63, 64, 65, 66, 67, 68, 69, 70, 71, 72, 73, 74, 75, 76, 77, 78, 79, 80, 81, 82, 83, 84, 85, 86, 87, 88, 89, 90, 91, 92, 93, 94, 95, 96, 97, 98, 99, 100, 101, 102, 103, 104, 105, 106, 107, 108, 109, 110, 111, 112, 113, 114, 115, 116, 117, 118, 119, 120, 121, 122, 123, 124, 125, 126, 127, 128, 129, 130, 131, 132, 133, 134, 135, 136, 137, 138, 139, 140] (by decide +kernel) (by decide +kernel)
set_option maxRecDepth 20000 in
theorem gX9_shift_X9_planOf : GoodIn wsX9_shift (wsV RX9 235 RX9 yX9_planOf wsX9_planOf) := goodIn_app (goodIn_of _ (by decide +kernel)) ggX9_shift_X9_planOf
theorem dX9_shift_0 : decode cX9_shift 0 = .ok (.iload_n 1, 1) := by decide +kernel
theorem dX9_shift_1 : decode cX9_shift 1 = .ok (.i2l, 1) := by decide +kernel
theorem dX9_shift_2 : decode cX9_shift 2 = .ok (.lconst 0, 1) := by decide +kernel
theorem dX9_shift_3 : decode cX9_shift 3 = .ok (.ldc2_w 250, 3) := by decide +kernel
theorem dX9_shift_6 : decode cX9_shift 6 = .ok (.invokestatic 102, 3) := by decide +kernel
theorem dX9_shift_9 : decode cX9_shift 9 = .ok (.ifCond .ne 6, 3) := by decide +kernel
theorem dX9_shift_12 : decode cX9_shift 12 = .ok (.bipush (-102), 2) := by decide +kernel
theorem dX9_shift_14 : decode cX9_shift 14 = .ok (.ireturn, 1) := by decide +kernel
theorem dX9_shift_15 : decode cX9_shift 15 = .ok (.aload_n 0, 1) := by decide +kernel
theorem dX9_shift_16 : decode cX9_shift 16 = .ok (.invokevirtual 231, 3) := by decide +kernel
theorem dX9_shift_19 : decode cX9_shift 19 = .ok (.ifCond .eq 6, 3) := by decide +kernel
theorem dX9_shift_22 : decode cX9_shift 22 = .ok (.bipush (-103), 2) := by decide +kernel
theorem dX9_shift_24 : decode cX9_shift 24 = .ok (.ireturn, 1) := by decide +kernel
theorem dX9_shift_25 : decode cX9_shift 25 = .ok (.iconst 0, 1) := by decide +kernel
theorem dX9_shift_26 : decode cX9_shift 26 = .ok (.istore_n 2, 1) := by decide +kernel
theorem dX9_shift_27 : decode cX9_shift 27 = .ok (.iload_n 2, 1) := by decide +kernel
theorem dX9_shift_28 : decode cX9_shift 28 = .ok (.aload_n 0, 1) := by decide +kernel
theorem dX9_shift_29 : decode cX9_shift 29 = .ok (.getfield 155, 3) := by decide +kernel
theorem dX9_shift_32 : decode cX9_shift 32 = .ok (.if_icmp .ge 26, 3) := by decide +kernel
theorem dX9_shift_35 : decode cX9_shift 35 = .ok (.aload_n 0, 1) := by decide +kernel
theorem dX9_shift_36 : decode cX9_shift 36 = .ok (.getfield 53, 3) := by decide +kernel
theorem dX9_shift_39 : decode cX9_shift 39 = .ok (.iload_n 2, 1) := by decide +kernel
theorem dX9_shift_40 : decode cX9_shift 40 = .ok (.aload_n 0, 1) := by decide +kernel
theorem dX9_shift_41 : decode cX9_shift 41 = .ok (.aload_n 0, 1) := by decide +kernel
theorem dX9_shift_42 : decode cX9_shift 42 = .ok (.getfield 53, 3) := by decide +kernel
theorem dX9_shift_45 : decode cX9_shift 45 = .ok (.iload_n 2, 1) := by decide +kernel
theorem dX9_shift_46 : decode cX9_shift 46 = .ok (.iaload, 1) := by decide +kernel
theorem dX9_shift_47 : decode cX9_shift 47 = .ok (.iload_n 1, 1) := by decide +kernel
theorem dX9_shift_48 : decode cX9_shift 48 = .ok (.invokevirtual 172, 3) := by decide +kernel
theorem dX9_shift_51 : decode cX9_shift 51 = .ok (.iastore, 1) := by decide +kernel
theorem dX9_shift_52 : decode cX9_shift 52 = .ok (.iinc 2 1, 3) := by decide +kernel
theorem dX9_shift_55 : decode cX9_shift 55 = .ok (.goto (-28), 3) := by decide +kernel
theorem dX9_shift_58 : decode cX9_shift 58 = .ok (.aload_n 0, 1) := by decide +kernel
theorem dX9_shift_59 : decode cX9_shift 59 = .ok (.iconst 1, 1) := by decide +kernel
theorem dX9_shift_60 : decode cX9_shift 60 = .ok (.putfield 168, 3) := by decide +kernel
theorem dX9_shift_63 : decode cX9_shift 63 = .ok (.aload_n 0, 1) := by decide +kernel
theorem dX9_shift_64 : decode cX9_shift 64 = .ok (.iconst 0, 1) := by decide +kernel
theorem dX9_shift_65 : decode cX9_shift 65 = .ok (.invokevirtual 235, 3) := by decide +kernel
theorem dX9_shift_68 : decode cX9_shift 68 = .ok (.ireturn, 1) := by decide +kernel
set_option maxRecDepth 20000 in
theorem ggX9_see_X9_isChord : GoodIn wsX9_see wsX9_isChord := goodIn_r _ [8, 9, 10, 11, 7, 12, 13, 14, 15, 16, 17, 18, 19, 20, 21, 22, 23, 24, 25, 26, 27, 28, 29, 30, 31, 32, 33, 34, 35, 36, 37, 38, 39, 40, 41, 42, 43, 44, 45, 46, 47, 48, 49, 50, 51, 52, 53, 54, 55, 56] (by decide +kernel) (by decide +kernel)
set_option maxRecDepth 20000 in
theorem gX9_see_X9_isChord : GoodIn wsX9_see (wsV RX9 241 RX9 yX9_isChord wsX9_isChord) := goodIn_app (goodIn_of _ (by decide +kernel)) ggX9_see_X9_isChord
set_option maxRecDepth 20000 in
theorem ggX9_see_X9_in : GoodIn wsX9_see wsX9_in := goodIn_r _ [12] (by decide +kernel) (by decide +kernel)
set_option maxRecDepth 20000 in
theorem gX9_see_X9_in : GoodIn wsX9_see (va_wsS RX9 102 yX9_in wsX9_in) := goodIn_app (goodIn_of _ (by decide +kernel)) ggX9_see_X9_in
theorem dX9_see_0 : decode cX9_see 0 = .ok (.aload_n 0, 1) := by decide +kernel
theorem dX9_see_1 : decode cX9_see 1 = .ok (.iload_n 1, 1) := by decide +kernel
theorem dX9_see_2 : decode cX9_see 2 = .ok (.invokevirtual 241, 3) := by decide +kernel
theorem dX9_see_5 : decode cX9_see 5 = .ok (.ifCond .ne 6, 3) := by decide +kernel
theorem dX9_see_8 : decode cX9_see 8 = .ok (.bipush (-101), 2) := by decide +kernel
theorem dX9_see_10 : decode cX9_see 10 = .ok (.ireturn, 1) := by decide +kernel
theorem dX9_see_11 : decode cX9_see 11 = .ok (.iload_n 2, 1) := by decide +kernel
theorem dX9_see_12 : decode cX9_see 12 = .ok (.i2l, 1) := by decide +kernel
theorem dX9_see_13 : decode cX9_see 13 = .ok (.lconst 0, 1) := by decide +kernel
theorem dX9_see_14 : decode cX9_see 14 = .ok (.ldc2_w 280, 3) := by decide +kernel
theorem dX9_see_17 : decode cX9_see 17 = .ok (.invokestatic 102, 3) := by decide +kernel
theorem dX9_see_20 : decode cX9_see 20 = .ok (.ifCond .ne 6, 3) := by decide +kernel
theorem dX9_see_23 : decode cX9_see 23 = .ok (.bipush (-102), 2) := by decide +kernel
theorem dX9_see_25 : decode cX9_see 25 = .ok (.ireturn, 1) := by decide +kernel
theorem dX9_see_26 : decode cX9_see 26 = .ok (.aload_n 0, 1) := by decide +kernel
theorem dX9_see_27 : decode cX9_see 27 = .ok (.getfield 162, 3) := by decide +kernel
theorem dX9_see_30 : decode cX9_see 30 = .ok (.bipush 6, 2) := by decide +kernel
theorem dX9_see_32 : decode cX9_see 32 = .ok (.if_icmp .ne 6, 3) := by decide +kernel
theorem dX9_see_35 : decode cX9_see 35 = .ok (.bipush (-104), 2) := by decide +kernel
theorem dX9_see_37 : decode cX9_see 37 = .ok (.ireturn, 1) := by decide +kernel
theorem dX9_see_38 : decode cX9_see 38 = .ok (.aload_n 0, 1) := by decide +kernel
theorem dX9_see_39 : decode cX9_see 39 = .ok (.getfield 74, 3) := by decide +kernel
theorem dX9_see_42 : decode cX9_see 42 = .ok (.iconst 3, 1) := by decide +kernel
theorem dX9_see_43 : decode cX9_see 43 = .ok (.aload_n 0, 1) := by decide +kernel
theorem dX9_see_44 : decode cX9_see 44 = .ok (.getfield 162, 3) := by decide +kernel
theorem dX9_see_47 : decode cX9_see 47 = .ok (.imul, 1) := by decide +kernel
theorem dX9_see_48 : decode cX9_see 48 = .ok (.iload_n 1, 1) := by decide +kernel
theorem dX9_see_49 : decode cX9_see 49 = .ok (.iastore, 1) := by decide +kernel
theorem dX9_see_50 : decode cX9_see 50 = .ok (.aload_n 0, 1) := by decide +kernel
theorem dX9_see_51 : decode cX9_see 51 = .ok (.getfield 74, 3) := by decide +kernel
theorem dX9_see_54 : decode cX9_see 54 = .ok (.iconst 3, 1) := by decide +kernel
theorem dX9_see_55 : decode cX9_see 55 = .ok (.aload_n 0, 1) := by decide +kernel
theorem dX9_see_56 : decode cX9_see 56 = .ok (.getfield 162, 3) := by decide +kernel
theorem dX9_see_59 : decode cX9_see 59 = .ok (.imul, 1) := by decide +kernel
theorem dX9_see_60 : decode cX9_see 60 = .ok (.iconst 1, 1) := by decide +kernel
theorem dX9_see_61 : decode cX9_see 61 = .ok (.iadd, 1) := by decide +kernel
theorem dX9_see_62 : decode cX9_see 62 = .ok (.iload_n 2, 1) := by decide +kernel
theorem dX9_see_63 : decode cX9_see 63 = .ok (.iastore, 1) := by decide +kernel
theorem dX9_see_64 : decode cX9_see 64 = .ok (.aload_n 0, 1) := by decide +kernel
theorem dX9_see_65 : decode cX9_see 65 = .ok (.getfield 74, 3) := by decide +kernel
theorem dX9_see_68 : decode cX9_see 68 = .ok (.iconst 3, 1) := by decide +kernel
theorem dX9_see_69 : decode cX9_see 69 = .ok (.aload_n 0, 1) := by decide +kernel
theorem dX9_see_70 : decode cX9_see 70 = .ok (.getfield 162, 3) := by decide +kernel
theorem dX9_see_73 : decode cX9_see 73 = .ok (.imul, 1) := by decide +kernel
theorem dX9_see_74 : decode cX9_see 74 = .ok (.iconst 2, 1) := by decide +kernel
theorem dX9_see_75 : decode cX9_see 75 = .ok (.iadd, 1) := by decide +kernel
theorem dX9_see_76 : decode cX9_see 76 = .ok (.iload_n 3, 1) := by decide +kernel
theorem dX9_see_77 : decode cX9_see 77 = .ok (.ifCond .eq 7, 3) := by decide +kernel
theorem dX9_see_80 : decode cX9_see 80 = .ok (.iconst 1, 1) := by decide +kernel
theorem dX9_see_81 : decode cX9_see 81 = .ok (.goto 4, 3) := by decide +kernel
theorem dX9_see_84 : decode cX9_see 84 = .ok (.iconst 0, 1) := by decide +kernel
theorem dX9_see_85 : decode cX9_see 85 = .ok (.iastore, 1) := by decide +kernel
theorem dX9_see_86 : decode cX9_see 86 = .ok (.aload_n 0, 1) := by decide +kernel
theorem dX9_see_87 : decode cX9_see 87 = .ok (.dup, 1) := by decide +kernel
theorem dX9_see_88 : decode cX9_see 88 = .ok (.getfield 162, 3) := by decide +kernel
theorem dX9_see_91 : decode cX9_see 91 = .ok (.iconst 1, 1) := by decide +kernel
theorem dX9_see_92 : decode cX9_see 92 = .ok (.iadd, 1) := by decide +kernel
theorem dX9_see_93 : decode cX9_see 93 = .ok (.putfield 162, 3) := by decide +kernel
theorem dX9_see_96 : decode cX9_see 96 = .ok (.aload_n 0, 1) := by decide +kernel
theorem dX9_see_97 : decode cX9_see 97 = .ok (.getfield 162, 3) := by decide +kernel
theorem dX9_see_100 : decode cX9_see 100 = .ok (.ireturn, 1) := by decide +kernel
theorem dX9_forget_0 : decode cX9_forget 0 = .ok (.aload_n 0, 1) := by decide +kernel
theorem dX9_forget_1 : decode cX9_forget 1 = .ok (.getfield 162, 3) := by decide +kernel
theorem dX9_forget_4 : decode cX9_forget 4 = .ok (.istore_n 1, 1) := by decide +kernel
theorem dX9_forget_5 : decode cX9_forget 5 = .ok (.aload_n 0, 1) := by decide +kernel
theorem dX9_forget_6 : decode cX9_forget 6 = .ok (.iconst 0, 1) := by decide +kernel
theorem dX9_forget_7 : decode cX9_forget 7 = .ok (.putfield 162, 3) := by decide +kernel
theorem dX9_forget_10 : decode cX9_forget 10 = .ok (.iload_n 1, 1) := by decide +kernel
theorem dX9_forget_11 : decode cX9_forget 11 = .ok (.ireturn, 1) := by decide +kernel
theorem dX9_sortsBy_0 : decode cX9_sortsBy 0 = .ok (.iload_n 0, 1) := by decide +kernel
theorem dX9_sortsBy_1 : decode cX9_sortsBy 1 = .ok (.tableswitch 36 0 2 #[27, 30, 33], 27) := by decide +kernel
theorem dX9_sortsBy_28 : decode cX9_sortsBy 28 = .ok (.bipush 29, 2) := by decide +kernel
theorem dX9_sortsBy_30 : decode cX9_sortsBy 30 = .ok (.ireturn, 1) := by decide +kernel
theorem dX9_sortsBy_31 : decode cX9_sortsBy 31 = .ok (.bipush 11, 2) := by decide +kernel
theorem dX9_sortsBy_33 : decode cX9_sortsBy 33 = .ok (.ireturn, 1) := by decide +kernel
theorem dX9_sortsBy_34 : decode cX9_sortsBy 34 = .ok (.bipush 7, 2) := by decide +kernel
theorem dX9_sortsBy_36 : decode cX9_sortsBy 36 = .ok (.ireturn, 1) := by decide +kernel
theorem dX9_sortsBy_37 : decode cX9_sortsBy 37 = .ok (.bipush 15, 2) := by decide +kernel
theorem dX9_sortsBy_39 : decode cX9_sortsBy 39 = .ok (.ireturn, 1) := by decide +kernel
set_option maxRecDepth 20000 in
theorem ggX9_sortsOf_X9_sortsBy : GoodIn wsX9_sortsOf wsX9_sortsBy := goodIn_r _ [6] (by decide +kernel) (by decide +kernel)
set_option maxRecDepth 20000 in
theorem gX9_sortsOf_X9_sortsBy : GoodIn wsX9_sortsOf (va_wsS RX9 282 yX9_sortsBy wsX9_sortsBy) := goodIn_app (goodIn_of _ (by decide +kernel)) ggX9_sortsOf_X9_sortsBy
theorem dX9_sortsOf_0 : decode cX9_sortsOf 0 = .ok (.bipush 31, 2) := by decide +kernel
theorem dX9_sortsOf_2 : decode cX9_sortsOf 2 = .ok (.istore_n 2, 1) := by decide +kernel
theorem dX9_sortsOf_3 : decode cX9_sortsOf 3 = .ok (.iconst 0, 1) := by decide +kernel
theorem dX9_sortsOf_4 : decode cX9_sortsOf 4 = .ok (.istore_n 3, 1) := by decide +kernel
theorem dX9_sortsOf_5 : decode cX9_sortsOf 5 = .ok (.iload_n 3, 1) := by decide +kernel
theorem dX9_sortsOf_6 : decode cX9_sortsOf 6 = .ok (.iconst 3, 1) := by decide +kernel
theorem dX9_sortsOf_7 : decode cX9_sortsOf 7 = .ok (.aload_n 0, 1) := by decide +kernel
theorem dX9_sortsOf_8 : decode cX9_sortsOf 8 = .ok (.getfield 162, 3) := by decide +kernel
theorem dX9_sortsOf_11 : decode cX9_sortsOf 11 = .ok (.imul, 1) := by decide +kernel
theorem dX9_sortsOf_12 : decode cX9_sortsOf 12 = .ok (.if_icmp .ge 57, 3) := by decide +kernel
theorem dX9_sortsOf_15 : decode cX9_sortsOf 15 = .ok (.aload_n 0, 1) := by decide +kernel
theorem dX9_sortsOf_16 : decode cX9_sortsOf 16 = .ok (.getfield 74, 3) := by decide +kernel
theorem dX9_sortsOf_19 : decode cX9_sortsOf 19 = .ok (.iload_n 3, 1) := by decide +kernel
theorem dX9_sortsOf_20 : decode cX9_sortsOf 20 = .ok (.iaload, 1) := by decide +kernel
theorem dX9_sortsOf_21 : decode cX9_sortsOf 21 = .ok (.iload_n 1, 1) := by decide +kernel
theorem dX9_sortsOf_22 : decode cX9_sortsOf 22 = .ok (.if_icmp .ne 41, 3) := by decide +kernel
theorem dX9_sortsOf_25 : decode cX9_sortsOf 25 = .ok (.aload_n 0, 1) := by decide +kernel
theorem dX9_sortsOf_26 : decode cX9_sortsOf 26 = .ok (.getfield 74, 3) := by decide +kernel
theorem dX9_sortsOf_29 : decode cX9_sortsOf 29 = .ok (.iload_n 3, 1) := by decide +kernel
theorem dX9_sortsOf_30 : decode cX9_sortsOf 30 = .ok (.iconst 1, 1) := by decide +kernel
theorem dX9_sortsOf_31 : decode cX9_sortsOf 31 = .ok (.iadd, 1) := by decide +kernel
theorem dX9_sortsOf_32 : decode cX9_sortsOf 32 = .ok (.iaload, 1) := by decide +kernel
theorem dX9_sortsOf_33 : decode cX9_sortsOf 33 = .ok (.invokestatic 282, 3) := by decide +kernel
theorem dX9_sortsOf_36 : decode cX9_sortsOf 36 = .ok (.istore 4, 2) := by decide +kernel
theorem dX9_sortsOf_38 : decode cX9_sortsOf 38 = .ok (.iload_n 2, 1) := by decide +kernel
theorem dX9_sortsOf_39 : decode cX9_sortsOf 39 = .ok (.aload_n 0, 1) := by decide +kernel
theorem dX9_sortsOf_40 : decode cX9_sortsOf 40 = .ok (.getfield 74, 3) := by decide +kernel
theorem dX9_sortsOf_43 : decode cX9_sortsOf 43 = .ok (.iload_n 3, 1) := by decide +kernel
theorem dX9_sortsOf_44 : decode cX9_sortsOf 44 = .ok (.iconst 2, 1) := by decide +kernel
theorem dX9_sortsOf_45 : decode cX9_sortsOf 45 = .ok (.iadd, 1) := by decide +kernel
theorem dX9_sortsOf_46 : decode cX9_sortsOf 46 = .ok (.iaload, 1) := by decide +kernel
theorem dX9_sortsOf_47 : decode cX9_sortsOf 47 = .ok (.iconst 1, 1) := by decide +kernel
theorem dX9_sortsOf_48 : decode cX9_sortsOf 48 = .ok (.if_icmp .ne 8, 3) := by decide +kernel
theorem dX9_sortsOf_51 : decode cX9_sortsOf 51 = .ok (.iload 4, 2) := by decide +kernel
theorem dX9_sortsOf_53 : decode cX9_sortsOf 53 = .ok (.goto 8, 3) := by decide +kernel
theorem dX9_sortsOf_56 : decode cX9_sortsOf 56 = .ok (.bipush 31, 2) := by decide +kernel
theorem dX9_sortsOf_58 : decode cX9_sortsOf 58 = .ok (.iload 4, 2) := by decide +kernel
theorem dX9_sortsOf_60 : decode cX9_sortsOf 60 = .ok (.isub, 1) := by decide +kernel
theorem dX9_sortsOf_61 : decode cX9_sortsOf 61 = .ok (.iand, 1) := by decide +kernel
theorem dX9_sortsOf_62 : decode cX9_sortsOf 62 = .ok (.istore_n 2, 1) := by decide +kernel
theorem dX9_sortsOf_63 : decode cX9_sortsOf 63 = .ok (.iinc 3 3, 3) := by decide +kernel
theorem dX9_sortsOf_66 : decode cX9_sortsOf 66 = .ok (.goto (-61), 3) := by decide +kernel
theorem dX9_sortsOf_69 : decode cX9_sortsOf 69 = .ok (.iload_n 2, 1) := by decide +kernel
theorem dX9_sortsOf_70 : decode cX9_sortsOf 70 = .ok (.ireturn, 1) := by decide +kernel
set_option maxRecDepth 20000 in
theorem ggX9_askOf_X9_sortsOf : GoodIn wsX9_askOf wsX9_sortsOf := goodIn_r _ [5, 6, 7, 8, 9, 4, 10, 14, 15, 16, 17, 18, 19, 20, 21, 22, 23, 24, 25, 26, 27, 28, 29, 30, 31, 32, 33, 34, 35, 36, 37, 38, 39, 40, 41, 42, 43, 44, 45, 46, 47, 48, 49, 50, 51, 52, 53, 54, 55, 56, 57] (by decide +kernel) (by decide +kernel)
set_option maxRecDepth 20000 in
theorem gX9_askOf_X9_sortsOf : GoodIn wsX9_askOf (wsV RX9 264 RX9 yX9_sortsOf wsX9_sortsOf) := goodIn_app (goodIn_of _ (by decide +kernel)) ggX9_askOf_X9_sortsOf
set_option maxRecDepth 20000 in
theorem ggX9_askOf_X9_sortsBy : GoodIn wsX9_askOf wsX9_sortsBy := goodIn_r _ [10] (by decide +kernel) (by decide +kernel)
set_option maxRecDepth 20000 in
theorem gX9_askOf_X9_sortsBy : GoodIn wsX9_askOf (va_wsS RX9 282 yX9_sortsBy wsX9_sortsBy) := goodIn_app (goodIn_of _ (by decide +kernel)) ggX9_askOf_X9_sortsBy
set_option maxRecDepth 20000 in
theorem ggX9_askOf_X9_ones : GoodIn wsX9_askOf wsX9_ones := goodIn_r _ [13] (by decide +kernel) (by decide +kernel)
set_option maxRecDepth 20000 in
theorem gX9_askOf_X9_ones : GoodIn wsX9_askOf (va_wsS RX9 277 yX9_ones wsX9_ones) := goodIn_app (goodIn_of _ (by decide +kernel)) ggX9_askOf_X9_ones
theorem dX9_askOf_0 : decode cX9_askOf 0 = .ok (.aload_n 0, 1) := by decide +kernel
theorem dX9_askOf_1 : decode cX9_askOf 1 = .ok (.iload_n 1, 1) := by decide +kernel
theorem dX9_askOf_2 : decode cX9_askOf 2 = .ok (.invokevirtual 264, 3) := by decide +kernel
theorem dX9_askOf_5 : decode cX9_askOf 5 = .ok (.istore_n 2, 1) := by decide +kernel
theorem dX9_askOf_6 : decode cX9_askOf 6 = .ok (.iconst (-1), 1) := by decide +kernel
theorem dX9_askOf_7 : decode cX9_askOf 7 = .ok (.istore_n 3, 1) := by decide +kernel
theorem dX9_askOf_8 : decode cX9_askOf 8 = .ok (.bipush 6, 2) := by decide +kernel
theorem dX9_askOf_10 : decode cX9_askOf 10 = .ok (.istore 4, 2) := by decide +kernel
theorem dX9_askOf_12 : decode cX9_askOf 12 = .ok (.iconst 0, 1) := by decide +kernel
theorem dX9_askOf_13 : decode cX9_askOf 13 = .ok (.istore 5, 2) := by decide +kernel
theorem dX9_askOf_15 : decode cX9_askOf 15 = .ok (.iload 5, 2) := by decide +kernel
theorem dX9_askOf_17 : decode cX9_askOf 17 = .ok (.iconst 4, 1) := by decide +kernel
theorem dX9_askOf_18 : decode cX9_askOf 18 = .ok (.if_icmp .ge 80, 3) := by decide +kernel
theorem dX9_askOf_21 : decode cX9_askOf 21 = .ok (.iload_n 2, 1) := by decide +kernel
theorem dX9_askOf_22 : decode cX9_askOf 22 = .ok (.ifCond .eq 76, 3) := by decide +kernel
theorem dX9_askOf_25 : decode cX9_askOf 25 = .ok (.iload_n 2, 1) := by decide +kernel
theorem dX9_askOf_26 : decode cX9_askOf 26 = .ok (.iload 5, 2) := by decide +kernel
theorem dX9_askOf_28 : decode cX9_askOf 28 = .ok (.invokestatic 282, 3) := by decide +kernel
theorem dX9_askOf_31 : decode cX9_askOf 31 = .ok (.iand, 1) := by decide +kernel
theorem dX9_askOf_32 : decode cX9_askOf 32 = .ok (.invokestatic 277, 3) := by decide +kernel
theorem dX9_askOf_35 : decode cX9_askOf 35 = .ok (.istore 6, 2) := by decide +kernel
theorem dX9_askOf_37 : decode cX9_askOf 37 = .ok (.iload_n 2, 1) := by decide +kernel
theorem dX9_askOf_38 : decode cX9_askOf 38 = .ok (.invokestatic 277, 3) := by decide +kernel
theorem dX9_askOf_41 : decode cX9_askOf 41 = .ok (.iload 6, 2) := by decide +kernel
theorem dX9_askOf_43 : decode cX9_askOf 43 = .ok (.isub, 1) := by decide +kernel
theorem dX9_askOf_44 : decode cX9_askOf 44 = .ok (.istore 7, 2) := by decide +kernel
theorem dX9_askOf_46 : decode cX9_askOf 46 = .ok (.iload 6, 2) := by decide +kernel
theorem dX9_askOf_48 : decode cX9_askOf 48 = .ok (.iload 7, 2) := by decide +kernel
theorem dX9_askOf_50 : decode cX9_askOf 50 = .ok (.if_icmp .le 8, 3) := by decide +kernel
theorem dX9_askOf_53 : decode cX9_askOf 53 = .ok (.iload 6, 2) := by decide +kernel
theorem dX9_askOf_55 : decode cX9_askOf 55 = .ok (.goto 5, 3) := by decide +kernel
theorem dX9_askOf_58 : decode cX9_askOf 58 = .ok (.iload 7, 2) := by decide +kernel
theorem dX9_askOf_60 : decode cX9_askOf 60 = .ok (.istore 8, 2) := by decide +kernel
theorem dX9_askOf_62 : decode cX9_askOf 62 = .ok (.iload 8, 2) := by decide +kernel
theorem dX9_askOf_64 : decode cX9_askOf 64 = .ok (.iload 4, 2) := by decide +kernel
theorem dX9_askOf_66 : decode cX9_askOf 66 = .ok (.if_icmp .ge 8, 3) := by decide +kernel
theorem dX9_askOf_69 : decode cX9_askOf 69 = .ok (.iload 5, 2) := by decide +kernel
theorem dX9_askOf_71 : decode cX9_askOf 71 = .ok (.goto 4, 3) := by decide +kernel
theorem dX9_askOf_74 : decode cX9_askOf 74 = .ok (.iload_n 3, 1) := by decide +kernel
theorem dX9_askOf_75 : decode cX9_askOf 75 = .ok (.istore_n 3, 1) := by decide +kernel
theorem dX9_askOf_76 : decode cX9_askOf 76 = .ok (.iload 8, 2) := by decide +kernel
theorem dX9_askOf_78 : decode cX9_askOf 78 = .ok (.iload 4, 2) := by decide +kernel
theorem dX9_askOf_80 : decode cX9_askOf 80 = .ok (.if_icmp .ge 8, 3) := by decide +kernel
theorem dX9_askOf_83 : decode cX9_askOf 83 = .ok (.iload 8, 2) := by decide +kernel
theorem dX9_askOf_85 : decode cX9_askOf 85 = .ok (.goto 5, 3) := by decide +kernel
theorem dX9_askOf_88 : decode cX9_askOf 88 = .ok (.iload 4, 2) := by decide +kernel
theorem dX9_askOf_90 : decode cX9_askOf 90 = .ok (.istore 4, 2) := by decide +kernel
theorem dX9_askOf_92 : decode cX9_askOf 92 = .ok (.iinc 5 1, 3) := by decide +kernel
theorem dX9_askOf_95 : decode cX9_askOf 95 = .ok (.goto (-80), 3) := by decide +kernel
theorem dX9_askOf_98 : decode cX9_askOf 98 = .ok (.iload_n 3, 1) := by decide +kernel
theorem dX9_askOf_99 : decode cX9_askOf 99 = .ok (.ireturn, 1) := by decide +kernel
theorem dX9_draw_0 : decode cX9_draw 0 = .ok (.aload_n 0, 1) := by decide +kernel
theorem dX9_draw_1 : decode cX9_draw 1 = .ok (.ldc2_w 285, 3) := by decide +kernel
theorem dX9_draw_4 : decode cX9_draw 4 = .ok (.aload_n 0, 1) := by decide +kernel
theorem dX9_draw_5 : decode cX9_draw 5 = .ok (.getfield 287, 3) := by decide +kernel
theorem dX9_draw_8 : decode cX9_draw 8 = .ok (.i2l, 1) := by decide +kernel
theorem dX9_draw_9 : decode cX9_draw 9 = .ok (.lmul, 1) := by decide +kernel
theorem dX9_draw_10 : decode cX9_draw 10 = .ok (.ldc2_w 290, 3) := by decide +kernel
theorem dX9_draw_13 : decode cX9_draw 13 = .ok (.ladd, 1) := by decide +kernel
theorem dX9_draw_14 : decode cX9_draw 14 = .ok (.ldc2_w 292, 3) := by decide +kernel
theorem dX9_draw_17 : decode cX9_draw 17 = .ok (.land, 1) := by decide +kernel
theorem dX9_draw_18 : decode cX9_draw 18 = .ok (.l2i, 1) := by decide +kernel
theorem dX9_draw_19 : decode cX9_draw 19 = .ok (.putfield 287, 3) := by decide +kernel
theorem dX9_draw_22 : decode cX9_draw 22 = .ok (.aload_n 0, 1) := by decide +kernel
theorem dX9_draw_23 : decode cX9_draw 23 = .ok (.getfield 287, 3) := by decide +kernel
theorem dX9_draw_26 : decode cX9_draw 26 = .ok (.ldc_w 294, 3) := by decide +kernel
theorem dX9_draw_29 : decode cX9_draw 29 = .ok (.idiv, 1) := by decide +kernel
theorem dX9_draw_30 : decode cX9_draw 30 = .ok (.iload_n 1, 1) := by decide +kernel
theorem dX9_draw_31 : decode cX9_draw 31 = .ok (.irem, 1) := by decide +kernel
theorem dX9_draw_32 : decode cX9_draw 32 = .ok (.ireturn, 1) := by decide +kernel
set_option maxRecDepth 20000 in
theorem ggX9_played_X9_after : GoodIn wsX9_played wsX9_after := goodIn_r _ [6, 7, 22, 23, 24, 25, 26, 27, 28, 29, 30, 31, 32, 33, 34, 35, 36, 37, 38, 39, 40, 41, 42, 43, 44, 45, 46, 47, 48, 49, 50, 51, 52, 53, 54, 55, 56, 57, 58, 59, 60, 61, 62, 63, 64, 65] (by decide +kernel) (by decide +kernel)
set_option maxRecDepth 20000 in
theorem gX9_played_X9_after : GoodIn wsX9_played (wsV RX9 192 RX9 yX9_after wsX9_after) := goodIn_app (goodIn_of _ (by decide +kernel)) ggX9_played_X9_after
set_option maxRecDepth 20000 in
theorem ggX9_played_X9_movedBy : GoodIn wsX9_played wsX9_movedBy := goodIn_r _ [11, 12, 22, 23, 24, 25, 26, 27, 28, 29, 30, 31, 32, 33, 34, 35, 36, 37, 38, 39, 40, 41, 42, 43, 44, 45, 46, 47, 48, 49, 50, 51, 52, 53, 54, 55, 56, 57, 58, 59, 60, 61, 62, 63, 64, 65] (by decide +kernel) (by decide +kernel)
set_option maxRecDepth 20000 in
theorem gX9_played_X9_movedBy : GoodIn wsX9_played (wsV RX9 195 RX9 yX9_movedBy wsX9_movedBy) := goodIn_app (goodIn_of _ (by decide +kernel)) ggX9_played_X9_movedBy
set_option maxRecDepth 20000 in
theorem ggX9_played_X9_isFitting : GoodIn wsX9_played wsX9_isFitting := goodIn_r _ [16, 17, 18, 19, 5, 20, 21, 22, 23, 24, 25, 26, 27, 28, 29, 30, 31, 32, 33, 34, 35, 36, 37, 38, 39, 40, 41, 42, 43, 44, 45, 46, 47, 48, 49, 50, 51, 52, 53, 54, 55, 56, 57, 58, 59, 60, 61, 62, 63, 64, 65] (by decide +kernel) (by decide +kernel)
set_option maxRecDepth 20000 in
theorem gX9_played_X9_isFitting : GoodIn wsX9_played (wsV RX9 175 RX9 yX9_isFitting wsX9_isFitting) := goodIn_app (goodIn_of _ (by decide +kernel)) ggX9_played_X9_isFitting
theorem dX9_played_0 : decode cX9_played 0 = .ok (.iconst (-1), 1) := by decide +kernel
theorem dX9_played_1 : decode cX9_played 1 = .ok (.istore_n 3, 1) := by decide +kernel
theorem dX9_played_2 : decode cX9_played 2 = .ok (.iconst 3, 1) := by decide +kernel
theorem dX9_played_3 : decode cX9_played 3 = .ok (.istore 4, 2) := by decide +kernel
theorem dX9_played_5 : decode cX9_played 5 = .ok (.iconst 0, 1) := by decide +kernel
theorem dX9_played_6 : decode cX9_played 6 = .ok (.istore 5, 2) := by decide +kernel
theorem dX9_played_8 : decode cX9_played 8 = .ok (.iload 5, 2) := by decide +kernel
theorem dX9_played_10 : decode cX9_played 10 = .ok (.bipush 63, 2) := by decide +kernel
theorem dX9_played_12 : decode cX9_played 12 = .ok (.if_icmp .ge 90, 3) := by decide +kernel
theorem dX9_played_15 : decode cX9_played 15 = .ok (.aload_n 0, 1) := by decide +kernel
theorem dX9_played_16 : decode cX9_played 16 = .ok (.iload_n 1, 1) := by decide +kernel
theorem dX9_played_17 : decode cX9_played 17 = .ok (.iload 5, 2) := by decide +kernel
theorem dX9_played_19 : decode cX9_played 19 = .ok (.invokevirtual 192, 3) := by decide +kernel
theorem dX9_played_22 : decode cX9_played 22 = .ok (.istore 6, 2) := by decide +kernel
theorem dX9_played_24 : decode cX9_played 24 = .ok (.aload_n 0, 1) := by decide +kernel
theorem dX9_played_25 : decode cX9_played 25 = .ok (.iload 5, 2) := by decide +kernel
theorem dX9_played_27 : decode cX9_played 27 = .ok (.invokevirtual 195, 3) := by decide +kernel
theorem dX9_played_30 : decode cX9_played 30 = .ok (.istore 7, 2) := by decide +kernel
theorem dX9_played_32 : decode cX9_played 32 = .ok (.aload_n 0, 1) := by decide +kernel
theorem dX9_played_33 : decode cX9_played 33 = .ok (.iload 6, 2) := by decide +kernel
theorem dX9_played_35 : decode cX9_played 35 = .ok (.iconst 0, 1) := by decide +kernel
theorem dX9_played_36 : decode cX9_played 36 = .ok (.iload_n 2, 1) := by decide +kernel
theorem dX9_played_37 : decode cX9_played 37 = .ok (.invokevirtual 175, 3) := by decide +kernel
theorem dX9_played_40 : decode cX9_played 40 = .ok (.ifCond .eq 27, 3) := by decide +kernel
theorem dX9_played_43 : decode cX9_played 43 = .ok (.iload 7, 2) := by decide +kernel
theorem dX9_played_45 : decode cX9_played 45 = .ok (.iload 4, 2) := by decide +kernel
theorem dX9_played_47 : decode cX9_played 47 = .ok (.if_icmp .lt 16, 3) := by decide +kernel
theorem dX9_played_50 : decode cX9_played 50 = .ok (.iload 7, 2) := by decide +kernel
theorem dX9_played_52 : decode cX9_played 52 = .ok (.iload 4, 2) := by decide +kernel
theorem dX9_played_54 : decode cX9_played 54 = .ok (.if_icmp .ne 13, 3) := by decide +kernel
theorem dX9_played_57 : decode cX9_played 57 = .ok (.iload 6, 2) := by decide +kernel
theorem dX9_played_59 : decode cX9_played 59 = .ok (.iload_n 3, 1) := by decide +kernel
theorem dX9_played_60 : decode cX9_played 60 = .ok (.if_icmp .ge 7, 3) := by decide +kernel
theorem dX9_played_63 : decode cX9_played 63 = .ok (.iconst 1, 1) := by decide +kernel
theorem dX9_played_64 : decode cX9_played 64 = .ok (.goto 4, 3) := by decide +kernel
theorem dX9_played_67 : decode cX9_played 67 = .ok (.iconst 0, 1) := by decide +kernel
theorem dX9_played_68 : decode cX9_played 68 = .ok (.istore 8, 2) := by decide +kernel
theorem dX9_played_70 : decode cX9_played 70 = .ok (.iload 8, 2) := by decide +kernel
theorem dX9_played_72 : decode cX9_played 72 = .ok (.ifCond .eq 8, 3) := by decide +kernel
theorem dX9_played_75 : decode cX9_played 75 = .ok (.iload 6, 2) := by decide +kernel
theorem dX9_played_77 : decode cX9_played 77 = .ok (.goto 4, 3) := by decide +kernel
theorem dX9_played_80 : decode cX9_played 80 = .ok (.iload_n 3, 1) := by decide +kernel
theorem dX9_played_81 : decode cX9_played 81 = .ok (.istore_n 3, 1) := by decide +kernel
theorem dX9_played_82 : decode cX9_played 82 = .ok (.iload 8, 2) := by decide +kernel
theorem dX9_played_84 : decode cX9_played 84 = .ok (.ifCond .eq 8, 3) := by decide +kernel
theorem dX9_played_87 : decode cX9_played 87 = .ok (.iload 7, 2) := by decide +kernel
theorem dX9_played_89 : decode cX9_played 89 = .ok (.goto 5, 3) := by decide +kernel
theorem dX9_played_92 : decode cX9_played 92 = .ok (.iload 4, 2) := by decide +kernel
theorem dX9_played_94 : decode cX9_played 94 = .ok (.istore 4, 2) := by decide +kernel
theorem dX9_played_96 : decode cX9_played 96 = .ok (.iinc 5 1, 3) := by decide +kernel
theorem dX9_played_99 : decode cX9_played 99 = .ok (.goto (-91), 3) := by decide +kernel
theorem dX9_played_102 : decode cX9_played 102 = .ok (.aload_n 0, 1) := by decide +kernel
theorem dX9_played_103 : decode cX9_played 103 = .ok (.iload 4, 2) := by decide +kernel
theorem dX9_played_105 : decode cX9_played 105 = .ok (.putfield 295, 3) := by decide +kernel
theorem dX9_played_108 : decode cX9_played 108 = .ok (.iload_n 3, 1) := by decide +kernel
theorem dX9_played_109 : decode cX9_played 109 = .ok (.ireturn, 1) := by decide +kernel
set_option maxRecDepth 20000 in
theorem ggX9_drawn_X9_in : GoodIn wsX9_drawn wsX9_in := goodIn_r _ [9] (by decide +kernel) (by decide +kernel)
set_option maxRecDepth 20000 in
theorem gX9_drawn_X9_in : GoodIn wsX9_drawn (va_wsS RX9 102 yX9_in wsX9_in) := goodIn_app (goodIn_of _ (by decide +kernel)) ggX9_drawn_X9_in
set_option maxRecDepth 20000 in
theorem ggX9_drawn_X9_lacks : GoodIn wsX9_drawn wsX9_lacks := goodIn_r _ [13, 14, 46, 47, 48, 49, 50, 51, 52, 53, 54, 55, 56, 57, 58, 59, 60, 61, 62, 63, 64, 65, 66, 67, 68, 69, 70, 71, 72, 73, 74, 75, 76, 77, 78, 79, 80, 81, 82, 83, 84, 85, 86, 87, 88, 89] (by decide +kernel) (by decide +kernel)
set_option maxRecDepth 20000 in
theorem gX9_drawn_X9_lacks : GoodIn wsX9_drawn (wsV RX9 231 RX9 yX9_lacks wsX9_lacks) := goodIn_app (goodIn_of _ (by decide +kernel)) ggX9_drawn_X9_lacks
set_option maxRecDepth 20000 in
theorem ggX9_drawn_X9_draw : GoodIn wsX9_drawn wsX9_draw := goodIn_r _ [18, 19, 3, 20, 21, 22, 46, 47, 48, 49, 50, 51, 52, 53, 54, 55, 56, 57, 58, 59, 60, 61, 62, 63, 64, 65, 66, 67, 68, 69, 70, 71, 72, 73, 74, 75, 76, 77, 78, 79, 80, 81, 82, 83, 84, 85, 86, 87, 88, 89] (by decide +kernel) (by decide +kernel)
set_option maxRecDepth 20000 in
theorem gX9_drawn_X9_draw : GoodIn wsX9_drawn (wsV RX9 300 RX9 yX9_draw wsX9_draw) := goodIn_app (goodIn_of _ (by decide +kernel)) ggX9_drawn_X9_draw
set_option maxRecDepth 20000 in
theorem ggX9_drawn_X9_played : GoodIn wsX9_drawn wsX9_played := goodIn_r _ [26, 5, 27, 28, 29, 8, 30, 31, 32, 33, 34, 35, 36, 37, 38, 39, 40, 41, 42, 43, 44, 45, 46, 47, 48, 49, 50, 51, 52, 53, 54, 55, 56, 57, 58, 59, 60, 61, 62, 63, 64, 65, 66, 67, 68, 69, 70, 71, 72, 73, 74, 75, 76, 77, 78, 79, 80, 81, 82, 83, 84, 85, 86, 87, 88, 89] (by decide +kernel) (by decide +kernel)
set_option maxRecDepth 20000 in
theorem gX9_drawn_X9_played : GoodIn wsX9_drawn (wsV RX9 303 RX9 yX9_played wsX9_played) := goodIn_app (goodIn_of _ (by decide +kernel)) ggX9_drawn_X9_played
theorem dX9_drawn_0 : decode cX9_drawn 0 = .ok (.iload_n 1, 1) := by decide +kernel
theorem dX9_drawn_1 : decode cX9_drawn 1 = .ok (.i2l, 1) := by decide +kernel
theorem dX9_drawn_2 : decode cX9_drawn 2 = .ok (.lconst 1, 1) := by decide +kernel
theorem dX9_drawn_3 : decode cX9_drawn 3 = .ok (.ldc2_w 298, 3) := by decide +kernel
theorem dX9_drawn_6 : decode cX9_drawn 6 = .ok (.invokestatic 102, 3) := by decide +kernel
theorem dX9_drawn_9 : decode cX9_drawn 9 = .ok (.ifCond .eq 19, 3) := by decide +kernel
theorem dX9_drawn_12 : decode cX9_drawn 12 = .ok (.iload_n 2, 1) := by decide +kernel
theorem dX9_drawn_13 : decode cX9_drawn 13 = .ok (.ifCond .lt 15, 3) := by decide +kernel
theorem dX9_drawn_16 : decode cX9_drawn 16 = .ok (.iload_n 3, 1) := by decide +kernel
theorem dX9_drawn_17 : decode cX9_drawn 17 = .ok (.i2l, 1) := by decide +kernel
theorem dX9_drawn_18 : decode cX9_drawn 18 = .ok (.lconst 0, 1) := by decide +kernel
theorem dX9_drawn_19 : decode cX9_drawn 19 = .ok (.ldc2_w 106, 3) := by decide +kernel
theorem dX9_drawn_22 : decode cX9_drawn 22 = .ok (.invokestatic 102, 3) := by decide +kernel
theorem dX9_drawn_25 : decode cX9_drawn 25 = .ok (.ifCond .ne 6, 3) := by decide +kernel
theorem dX9_drawn_28 : decode cX9_drawn 28 = .ok (.bipush (-102), 2) := by decide +kernel
theorem dX9_drawn_30 : decode cX9_drawn 30 = .ok (.ireturn, 1) := by decide +kernel
theorem dX9_drawn_31 : decode cX9_drawn 31 = .ok (.aload_n 0, 1) := by decide +kernel
theorem dX9_drawn_32 : decode cX9_drawn 32 = .ok (.invokevirtual 231, 3) := by decide +kernel
theorem dX9_drawn_35 : decode cX9_drawn 35 = .ok (.ifCond .eq 6, 3) := by decide +kernel
theorem dX9_drawn_38 : decode cX9_drawn 38 = .ok (.bipush (-103), 2) := by decide +kernel
theorem dX9_drawn_40 : decode cX9_drawn 40 = .ok (.ireturn, 1) := by decide +kernel
theorem dX9_drawn_41 : decode cX9_drawn 41 = .ok (.aload_n 0, 1) := by decide +kernel
theorem dX9_drawn_42 : decode cX9_drawn 42 = .ok (.iload_n 2, 1) := by decide +kernel
theorem dX9_drawn_43 : decode cX9_drawn 43 = .ok (.putfield 287, 3) := by decide +kernel
theorem dX9_drawn_46 : decode cX9_drawn 46 = .ok (.aload_n 0, 1) := by decide +kernel
theorem dX9_drawn_47 : decode cX9_drawn 47 = .ok (.getfield 152, 3) := by decide +kernel
theorem dX9_drawn_50 : decode cX9_drawn 50 = .ok (.istore 4, 2) := by decide +kernel
theorem dX9_drawn_52 : decode cX9_drawn 52 = .ok (.iconst 0, 1) := by decide +kernel
theorem dX9_drawn_53 : decode cX9_drawn 53 = .ok (.istore 5, 2) := by decide +kernel
theorem dX9_drawn_55 : decode cX9_drawn 55 = .ok (.iconst 0, 1) := by decide +kernel
theorem dX9_drawn_56 : decode cX9_drawn 56 = .ok (.istore 6, 2) := by decide +kernel
theorem dX9_drawn_58 : decode cX9_drawn 58 = .ok (.iconst 0, 1) := by decide +kernel
theorem dX9_drawn_59 : decode cX9_drawn 59 = .ok (.istore 7, 2) := by decide +kernel
theorem dX9_drawn_61 : decode cX9_drawn 61 = .ok (.iload 7, 2) := by decide +kernel
theorem dX9_drawn_63 : decode cX9_drawn 63 = .ok (.iload_n 1, 1) := by decide +kernel
theorem dX9_drawn_64 : decode cX9_drawn 64 = .ok (.if_icmp .ge 100, 3) := by decide +kernel
theorem dX9_drawn_67 : decode cX9_drawn 67 = .ok (.aload_n 0, 1) := by decide +kernel
theorem dX9_drawn_68 : decode cX9_drawn 68 = .ok (.bipush 12, 2) := by decide +kernel
theorem dX9_drawn_70 : decode cX9_drawn 70 = .ok (.invokevirtual 300, 3) := by decide +kernel
theorem dX9_drawn_73 : decode cX9_drawn 73 = .ok (.istore 8, 2) := by decide +kernel
theorem dX9_drawn_75 : decode cX9_drawn 75 = .ok (.iload 8, 2) := by decide +kernel
theorem dX9_drawn_77 : decode cX9_drawn 77 = .ok (.iconst 1, 1) := by decide +kernel
theorem dX9_drawn_78 : decode cX9_drawn 78 = .ok (.iadd, 1) := by decide +kernel
theorem dX9_drawn_79 : decode cX9_drawn 79 = .ok (.aload_n 0, 1) := by decide +kernel
theorem dX9_drawn_80 : decode cX9_drawn 80 = .ok (.bipush 11, 2) := by decide +kernel
theorem dX9_drawn_82 : decode cX9_drawn 82 = .ok (.invokevirtual 300, 3) := by decide +kernel
theorem dX9_drawn_85 : decode cX9_drawn 85 = .ok (.iadd, 1) := by decide +kernel
theorem dX9_drawn_86 : decode cX9_drawn 86 = .ok (.bipush 12, 2) := by decide +kernel
theorem dX9_drawn_88 : decode cX9_drawn 88 = .ok (.irem, 1) := by decide +kernel
theorem dX9_drawn_89 : decode cX9_drawn 89 = .ok (.istore 9, 2) := by decide +kernel
theorem dX9_drawn_91 : decode cX9_drawn 91 = .ok (.aload_n 0, 1) := by decide +kernel
theorem dX9_drawn_92 : decode cX9_drawn 92 = .ok (.iload 4, 2) := by decide +kernel
theorem dX9_drawn_94 : decode cX9_drawn 94 = .ok (.iconst 1, 1) := by decide +kernel
theorem dX9_drawn_95 : decode cX9_drawn 95 = .ok (.iload 8, 2) := by decide +kernel
theorem dX9_drawn_97 : decode cX9_drawn 97 = .ok (.ishl, 1) := by decide +kernel
theorem dX9_drawn_98 : decode cX9_drawn 98 = .ok (.iconst 1, 1) := by decide +kernel
theorem dX9_drawn_99 : decode cX9_drawn 99 = .ok (.iload 9, 2) := by decide +kernel
theorem dX9_drawn_101 : decode cX9_drawn 101 = .ok (.ishl, 1) := by decide +kernel
theorem dX9_drawn_102 : decode cX9_drawn 102 = .ok (.ior, 1) := by decide +kernel
theorem dX9_drawn_103 : decode cX9_drawn 103 = .ok (.invokevirtual 303, 3) := by decide +kernel
theorem dX9_drawn_106 : decode cX9_drawn 106 = .ok (.istore 10, 2) := by decide +kernel
theorem dX9_drawn_108 : decode cX9_drawn 108 = .ok (.iload 5, 2) := by decide +kernel
theorem dX9_drawn_110 : decode cX9_drawn 110 = .ok (.iload 10, 2) := by decide +kernel
theorem dX9_drawn_112 : decode cX9_drawn 112 = .ok (.iconst (-1), 1) := by decide +kernel
theorem dX9_drawn_113 : decode cX9_drawn 113 = .ok (.if_icmp .ne 7, 3) := by decide +kernel
theorem dX9_drawn_116 : decode cX9_drawn 116 = .ok (.iconst 0, 1) := by decide +kernel
theorem dX9_drawn_117 : decode cX9_drawn 117 = .ok (.goto 4, 3) := by decide +kernel
theorem dX9_drawn_120 : decode cX9_drawn 120 = .ok (.iconst 1, 1) := by decide +kernel
theorem dX9_drawn_121 : decode cX9_drawn 121 = .ok (.iadd, 1) := by decide +kernel
theorem dX9_drawn_122 : decode cX9_drawn 122 = .ok (.istore 5, 2) := by decide +kernel
theorem dX9_drawn_124 : decode cX9_drawn 124 = .ok (.iload 6, 2) := by decide +kernel
theorem dX9_drawn_126 : decode cX9_drawn 126 = .ok (.iload 10, 2) := by decide +kernel
theorem dX9_drawn_128 : decode cX9_drawn 128 = .ok (.iconst (-1), 1) := by decide +kernel
theorem dX9_drawn_129 : decode cX9_drawn 129 = .ok (.if_icmp .ne 7, 3) := by decide +kernel
theorem dX9_drawn_132 : decode cX9_drawn 132 = .ok (.iconst 0, 1) := by decide +kernel
theorem dX9_drawn_133 : decode cX9_drawn 133 = .ok (.goto 7, 3) := by decide +kernel
theorem dX9_drawn_136 : decode cX9_drawn 136 = .ok (.aload_n 0, 1) := by decide +kernel
theorem dX9_drawn_137 : decode cX9_drawn 137 = .ok (.getfield 295, 3) := by decide +kernel
theorem dX9_drawn_140 : decode cX9_drawn 140 = .ok (.iadd, 1) := by decide +kernel
theorem dX9_drawn_141 : decode cX9_drawn 141 = .ok (.istore 6, 2) := by decide +kernel
theorem dX9_drawn_143 : decode cX9_drawn 143 = .ok (.iload 10, 2) := by decide +kernel
theorem dX9_drawn_145 : decode cX9_drawn 145 = .ok (.iconst (-1), 1) := by decide +kernel
theorem dX9_drawn_146 : decode cX9_drawn 146 = .ok (.if_icmp .ne 8, 3) := by decide +kernel
theorem dX9_drawn_149 : decode cX9_drawn 149 = .ok (.iload 4, 2) := by decide +kernel
theorem dX9_drawn_151 : decode cX9_drawn 151 = .ok (.goto 5, 3) := by decide +kernel
theorem dX9_drawn_154 : decode cX9_drawn 154 = .ok (.iload 10, 2) := by decide +kernel
theorem dX9_drawn_156 : decode cX9_drawn 156 = .ok (.istore 4, 2) := by decide +kernel
theorem dX9_drawn_158 : decode cX9_drawn 158 = .ok (.iinc 7 1, 3) := by decide +kernel
theorem dX9_drawn_161 : decode cX9_drawn 161 = .ok (.goto (-100), 3) := by decide +kernel
theorem dX9_drawn_164 : decode cX9_drawn 164 = .ok (.iload_n 3, 1) := by decide +kernel
theorem dX9_drawn_165 : decode cX9_drawn 165 = .ok (.ifCond .ne 8, 3) := by decide +kernel
theorem dX9_drawn_168 : decode cX9_drawn 168 = .ok (.iload 5, 2) := by decide +kernel
theorem dX9_drawn_170 : decode cX9_drawn 170 = .ok (.goto 17, 3) := by decide +kernel
theorem dX9_drawn_173 : decode cX9_drawn 173 = .ok (.iload_n 3, 1) := by decide +kernel
theorem dX9_drawn_174 : decode cX9_drawn 174 = .ok (.iconst 1, 1) := by decide +kernel
theorem dX9_drawn_175 : decode cX9_drawn 175 = .ok (.if_icmp .ne 8, 3) := by decide +kernel
theorem dX9_drawn_178 : decode cX9_drawn 178 = .ok (.iload 6, 2) := by decide +kernel
theorem dX9_drawn_180 : decode cX9_drawn 180 = .ok (.goto 7, 3) := by decide +kernel
theorem dX9_drawn_183 : decode cX9_drawn 183 = .ok (.aload_n 0, 1) := by decide +kernel
theorem dX9_drawn_184 : decode cX9_drawn 184 = .ok (.getfield 287, 3) := by decide +kernel
theorem dX9_drawn_187 : decode cX9_drawn 187 = .ok (.ireturn, 1) := by decide +kernel
set_option maxRecDepth 20000 in
theorem ggX9_image_X9_lacks : GoodIn wsX9_image wsX9_lacks := goodIn_r _ [19, 7, 23, 24, 25, 26, 27, 28, 29, 30, 31, 32, 33, 34, 35, 36, 37, 38, 39, 40, 41, 42, 43, 44, 45, 46, 47, 48, 49, 50, 51, 52, 53, 54, 55, 56, 57, 58, 59, 60, 61, 62, 63, 64, 65, 66] (by decide +kernel) (by decide +kernel)
set_option maxRecDepth 20000 in
theorem gX9_image_X9_lacks : GoodIn wsX9_image (wsV RX9 231 RX9 yX9_lacks wsX9_lacks) := goodIn_app (goodIn_of _ (by decide +kernel)) ggX9_image_X9_lacks
set_option maxRecDepth 20000 in
theorem ggX9_image_X9_copy : GoodIn wsX9_image wsX9_copy := goodIn_r _ [22] (by decide +kernel) (by decide +kernel)
set_option maxRecDepth 20000 in
theorem gX9_image_X9_copy : GoodIn wsX9_image (va_wsS RX9 158 yX9_copy wsX9_copy) := goodIn_app (goodIn_of _ (by decide +kernel)) ggX9_image_X9_copy
theorem dX9_image_0 : decode cX9_image 0 = .ok (.aload_n 0, 1) := by decide +kernel
theorem dX9_image_1 : decode cX9_image 1 = .ok (.invokevirtual 231, 3) := by decide +kernel
theorem dX9_image_4 : decode cX9_image 4 = .ok (.ifCond .eq 6, 3) := by decide +kernel
theorem dX9_image_7 : decode cX9_image 7 = .ok (.bipush (-103), 2) := by decide +kernel
theorem dX9_image_9 : decode cX9_image 9 = .ok (.ireturn, 1) := by decide +kernel
theorem dX9_image_10 : decode cX9_image 10 = .ok (.aload_n 0, 1) := by decide +kernel
theorem dX9_image_11 : decode cX9_image 11 = .ok (.getfield 50, 3) := by decide +kernel
theorem dX9_image_14 : decode cX9_image 14 = .ok (.aload_n 0, 1) := by decide +kernel
theorem dX9_image_15 : decode cX9_image 15 = .ok (.getfield 77, 3) := by decide +kernel
theorem dX9_image_18 : decode cX9_image 18 = .ok (.invokestatic 158, 3) := by decide +kernel
theorem dX9_image_21 : decode cX9_image 21 = .ok (.aload_n 0, 1) := by decide +kernel
theorem dX9_image_22 : decode cX9_image 22 = .ok (.getfield 53, 3) := by decide +kernel
theorem dX9_image_25 : decode cX9_image 25 = .ok (.aload_n 0, 1) := by decide +kernel
theorem dX9_image_26 : decode cX9_image 26 = .ok (.getfield 80, 3) := by decide +kernel
theorem dX9_image_29 : decode cX9_image 29 = .ok (.invokestatic 158, 3) := by decide +kernel
theorem dX9_image_32 : decode cX9_image 32 = .ok (.aload_n 0, 1) := by decide +kernel
theorem dX9_image_33 : decode cX9_image 33 = .ok (.getfield 74, 3) := by decide +kernel
theorem dX9_image_36 : decode cX9_image 36 = .ok (.aload_n 0, 1) := by decide +kernel
theorem dX9_image_37 : decode cX9_image 37 = .ok (.getfield 83, 3) := by decide +kernel
theorem dX9_image_40 : decode cX9_image 40 = .ok (.invokestatic 158, 3) := by decide +kernel
theorem dX9_image_43 : decode cX9_image 43 = .ok (.aload_n 0, 1) := by decide +kernel
theorem dX9_image_44 : decode cX9_image 44 = .ok (.aload_n 0, 1) := by decide +kernel
theorem dX9_image_45 : decode cX9_image 45 = .ok (.getfield 155, 3) := by decide +kernel
theorem dX9_image_48 : decode cX9_image 48 = .ok (.putfield 306, 3) := by decide +kernel
theorem dX9_image_51 : decode cX9_image 51 = .ok (.aload_n 0, 1) := by decide +kernel
theorem dX9_image_52 : decode cX9_image 52 = .ok (.aload_n 0, 1) := by decide +kernel
theorem dX9_image_53 : decode cX9_image 53 = .ok (.getfield 152, 3) := by decide +kernel
theorem dX9_image_56 : decode cX9_image 56 = .ok (.putfield 309, 3) := by decide +kernel
theorem dX9_image_59 : decode cX9_image 59 = .ok (.aload_n 0, 1) := by decide +kernel
theorem dX9_image_60 : decode cX9_image 60 = .ok (.aload_n 0, 1) := by decide +kernel
theorem dX9_image_61 : decode cX9_image 61 = .ok (.getfield 162, 3) := by decide +kernel
theorem dX9_image_64 : decode cX9_image 64 = .ok (.putfield 312, 3) := by decide +kernel
theorem dX9_image_67 : decode cX9_image 67 = .ok (.aload_n 0, 1) := by decide +kernel
theorem dX9_image_68 : decode cX9_image 68 = .ok (.aload_n 0, 1) := by decide +kernel
theorem dX9_image_69 : decode cX9_image 69 = .ok (.getfield 165, 3) := by decide +kernel
theorem dX9_image_72 : decode cX9_image 72 = .ok (.putfield 86, 3) := by decide +kernel
theorem dX9_image_75 : decode cX9_image 75 = .ok (.aload_n 0, 1) := by decide +kernel
theorem dX9_image_76 : decode cX9_image 76 = .ok (.getfield 155, 3) := by decide +kernel
theorem dX9_image_79 : decode cX9_image 79 = .ok (.ireturn, 1) := by decide +kernel
set_option maxRecDepth 20000 in
theorem ggX9_restore_X9_copy : GoodIn wsX9_restore wsX9_copy := goodIn_r _ [19] (by decide +kernel) (by decide +kernel)
set_option maxRecDepth 20000 in
theorem gX9_restore_X9_copy : GoodIn wsX9_restore (va_wsS RX9 158 yX9_copy wsX9_copy) := goodIn_app (goodIn_of _ (by decide +kernel)) ggX9_restore_X9_copy
theorem dX9_restore_0 : decode cX9_restore 0 = .ok (.aload_n 0, 1) := by decide +kernel
theorem dX9_restore_1 : decode cX9_restore 1 = .ok (.getfield 86, 3) := by decide +kernel
theorem dX9_restore_4 : decode cX9_restore 4 = .ok (.aload_n 0, 1) := by decide +kernel
theorem dX9_restore_5 : decode cX9_restore 5 = .ok (.getfield 165, 3) := by decide +kernel
theorem dX9_restore_8 : decode cX9_restore 8 = .ok (.if_icmp .eq 6, 3) := by decide +kernel
theorem dX9_restore_11 : decode cX9_restore 11 = .ok (.bipush (-103), 2) := by decide +kernel
theorem dX9_restore_13 : decode cX9_restore 13 = .ok (.ireturn, 1) := by decide +kernel
theorem dX9_restore_14 : decode cX9_restore 14 = .ok (.aload_n 0, 1) := by decide +kernel
theorem dX9_restore_15 : decode cX9_restore 15 = .ok (.getfield 77, 3) := by decide +kernel
theorem dX9_restore_18 : decode cX9_restore 18 = .ok (.aload_n 0, 1) := by decide +kernel
theorem dX9_restore_19 : decode cX9_restore 19 = .ok (.getfield 50, 3) := by decide +kernel
theorem dX9_restore_22 : decode cX9_restore 22 = .ok (.invokestatic 158, 3) := by decide +kernel
theorem dX9_restore_25 : decode cX9_restore 25 = .ok (.aload_n 0, 1) := by decide +kernel
theorem dX9_restore_26 : decode cX9_restore 26 = .ok (.getfield 80, 3) := by decide +kernel
theorem dX9_restore_29 : decode cX9_restore 29 = .ok (.aload_n 0, 1) := by decide +kernel
theorem dX9_restore_30 : decode cX9_restore 30 = .ok (.getfield 53, 3) := by decide +kernel
theorem dX9_restore_33 : decode cX9_restore 33 = .ok (.invokestatic 158, 3) := by decide +kernel
theorem dX9_restore_36 : decode cX9_restore 36 = .ok (.aload_n 0, 1) := by decide +kernel
theorem dX9_restore_37 : decode cX9_restore 37 = .ok (.getfield 83, 3) := by decide +kernel
theorem dX9_restore_40 : decode cX9_restore 40 = .ok (.aload_n 0, 1) := by decide +kernel
theorem dX9_restore_41 : decode cX9_restore 41 = .ok (.getfield 74, 3) := by decide +kernel
theorem dX9_restore_44 : decode cX9_restore 44 = .ok (.invokestatic 158, 3) := by decide +kernel
theorem dX9_restore_47 : decode cX9_restore 47 = .ok (.aload_n 0, 1) := by decide +kernel
theorem dX9_restore_48 : decode cX9_restore 48 = .ok (.aload_n 0, 1) := by decide +kernel
theorem dX9_restore_49 : decode cX9_restore 49 = .ok (.getfield 306, 3) := by decide +kernel
theorem dX9_restore_52 : decode cX9_restore 52 = .ok (.putfield 155, 3) := by decide +kernel
theorem dX9_restore_55 : decode cX9_restore 55 = .ok (.aload_n 0, 1) := by decide +kernel
theorem dX9_restore_56 : decode cX9_restore 56 = .ok (.aload_n 0, 1) := by decide +kernel
theorem dX9_restore_57 : decode cX9_restore 57 = .ok (.getfield 309, 3) := by decide +kernel
theorem dX9_restore_60 : decode cX9_restore 60 = .ok (.putfield 152, 3) := by decide +kernel
theorem dX9_restore_63 : decode cX9_restore 63 = .ok (.aload_n 0, 1) := by decide +kernel
theorem dX9_restore_64 : decode cX9_restore 64 = .ok (.aload_n 0, 1) := by decide +kernel
theorem dX9_restore_65 : decode cX9_restore 65 = .ok (.getfield 312, 3) := by decide +kernel
theorem dX9_restore_68 : decode cX9_restore 68 = .ok (.putfield 162, 3) := by decide +kernel
theorem dX9_restore_71 : decode cX9_restore 71 = .ok (.aload_n 0, 1) := by decide +kernel
theorem dX9_restore_72 : decode cX9_restore 72 = .ok (.iconst 1, 1) := by decide +kernel
theorem dX9_restore_73 : decode cX9_restore 73 = .ok (.putfield 168, 3) := by decide +kernel
theorem dX9_restore_76 : decode cX9_restore 76 = .ok (.aload_n 0, 1) := by decide +kernel
theorem dX9_restore_77 : decode cX9_restore 77 = .ok (.getfield 155, 3) := by decide +kernel
theorem dX9_restore_80 : decode cX9_restore 80 = .ok (.ireturn, 1) := by decide +kernel
set_option maxRecDepth 20000 in
theorem ggX9_tonesAll_X9_ones : GoodIn wsX9_tonesAll wsX9_ones := goodIn_r _ [6] (by decide +kernel) (by decide +kernel)
set_option maxRecDepth 20000 in
theorem gX9_tonesAll_X9_ones : GoodIn wsX9_tonesAll (va_wsS RX9 277 yX9_ones wsX9_ones) := goodIn_app (goodIn_of _ (by decide +kernel)) ggX9_tonesAll_X9_ones
theorem dX9_tonesAll_0 : decode cX9_tonesAll 0 = .ok (.iconst 0, 1) := by decide +kernel
theorem dX9_tonesAll_1 : decode cX9_tonesAll 1 = .ok (.istore_n 1, 1) := by decide +kernel
theorem dX9_tonesAll_2 : decode cX9_tonesAll 2 = .ok (.iconst 0, 1) := by decide +kernel
theorem dX9_tonesAll_3 : decode cX9_tonesAll 3 = .ok (.istore_n 2, 1) := by decide +kernel
theorem dX9_tonesAll_4 : decode cX9_tonesAll 4 = .ok (.iload_n 2, 1) := by decide +kernel
theorem dX9_tonesAll_5 : decode cX9_tonesAll 5 = .ok (.aload_n 0, 1) := by decide +kernel
theorem dX9_tonesAll_6 : decode cX9_tonesAll 6 = .ok (.getfield 155, 3) := by decide +kernel
theorem dX9_tonesAll_9 : decode cX9_tonesAll 9 = .ok (.if_icmp .ge 18, 3) := by decide +kernel
theorem dX9_tonesAll_12 : decode cX9_tonesAll 12 = .ok (.iload_n 1, 1) := by decide +kernel
theorem dX9_tonesAll_13 : decode cX9_tonesAll 13 = .ok (.aload_n 0, 1) := by decide +kernel
theorem dX9_tonesAll_14 : decode cX9_tonesAll 14 = .ok (.getfield 53, 3) := by decide +kernel
theorem dX9_tonesAll_17 : decode cX9_tonesAll 17 = .ok (.iload_n 2, 1) := by decide +kernel
theorem dX9_tonesAll_18 : decode cX9_tonesAll 18 = .ok (.iaload, 1) := by decide +kernel
theorem dX9_tonesAll_19 : decode cX9_tonesAll 19 = .ok (.ior, 1) := by decide +kernel
theorem dX9_tonesAll_20 : decode cX9_tonesAll 20 = .ok (.istore_n 1, 1) := by decide +kernel
theorem dX9_tonesAll_21 : decode cX9_tonesAll 21 = .ok (.iinc 2 1, 3) := by decide +kernel
theorem dX9_tonesAll_24 : decode cX9_tonesAll 24 = .ok (.goto (-20), 3) := by decide +kernel
theorem dX9_tonesAll_27 : decode cX9_tonesAll 27 = .ok (.iload_n 1, 1) := by decide +kernel
theorem dX9_tonesAll_28 : decode cX9_tonesAll 28 = .ok (.invokestatic 277, 3) := by decide +kernel
theorem dX9_tonesAll_31 : decode cX9_tonesAll 31 = .ok (.ireturn, 1) := by decide +kernel
set_option maxRecDepth 20000 in
theorem ggX9_countOf_X9_lacks : GoodIn wsX9_countOf wsX9_lacks := goodIn_r _ [11, 1, 29, 30, 31, 32, 33, 34, 35, 36, 37, 38, 39, 40, 41, 42, 43, 44, 45, 46, 47, 48, 49, 50, 51, 52, 53, 54, 55, 56, 57, 58, 59, 60, 61, 62, 63, 64, 65, 66, 67, 68, 69, 70, 71, 72] (by decide +kernel) (by decide +kernel)
set_option maxRecDepth 20000 in
theorem gX9_countOf_X9_lacks : GoodIn wsX9_countOf (wsV RX9 231 RX9 yX9_lacks wsX9_lacks) := goodIn_app (goodIn_of _ (by decide +kernel)) ggX9_countOf_X9_lacks
set_option maxRecDepth 20000 in
theorem ggX9_countOf_X9_told : GoodIn wsX9_countOf wsX9_told := goodIn_r _ [15, 16, 17, 18, 10, 19, 20, 29, 30, 31, 32, 33, 34, 35, 36, 37, 38, 39, 40, 41, 42, 43, 44, 45, 46, 47, 48, 49, 50, 51, 52, 53, 54, 55, 56, 57, 58, 59, 60, 61, 62, 63, 64, 65, 66, 67, 68, 69, 70, 71, 72] (by decide +kernel) (by decide +kernel)
set_option maxRecDepth 20000 in
theorem gX9_countOf_X9_told : GoodIn wsX9_countOf (wsV RX9 238 RX9 yX9_told wsX9_told) := goodIn_app (goodIn_of _ (by decide +kernel)) ggX9_countOf_X9_told
set_option maxRecDepth 20000 in
theorem ggX9_countOf_X9_tonesAll : GoodIn wsX9_countOf wsX9_tonesAll := goodIn_r _ [24, 1, 25, 26, 27, 10, 28, 29, 30, 31, 32, 33, 34, 35, 36, 37, 38, 39, 40, 41, 42, 43, 44, 45, 46, 47, 48, 49, 50, 51, 52, 53, 54, 55, 56, 57, 58, 59, 60, 61, 62, 63, 64, 65, 66, 67, 68, 69, 70, 71, 72] (by decide +kernel) (by decide +kernel)
set_option maxRecDepth 20000 in
theorem gX9_countOf_X9_tonesAll : GoodIn wsX9_countOf (wsV RX9 315 RX9 yX9_tonesAll wsX9_tonesAll) := goodIn_app (goodIn_of _ (by decide +kernel)) ggX9_countOf_X9_tonesAll
theorem dX9_countOf_0 : decode cX9_countOf 0 = .ok (.iload_n 1, 1) := by decide +kernel
theorem dX9_countOf_1 : decode cX9_countOf 1 = .ok (.tableswitch 93 0 6 #[43, 48, 68, 73, 78, 83, 88], 43) := by decide +kernel
theorem dX9_countOf_44 : decode cX9_countOf 44 = .ok (.aload_n 0, 1) := by decide +kernel
theorem dX9_countOf_45 : decode cX9_countOf 45 = .ok (.getfield 155, 3) := by decide +kernel
theorem dX9_countOf_48 : decode cX9_countOf 48 = .ok (.ireturn, 1) := by decide +kernel
theorem dX9_countOf_49 : decode cX9_countOf 49 = .ok (.aload_n 0, 1) := by decide +kernel
theorem dX9_countOf_50 : decode cX9_countOf 50 = .ok (.invokevirtual 231, 3) := by decide +kernel
theorem dX9_countOf_53 : decode cX9_countOf 53 = .ok (.ifCond .eq 7, 3) := by decide +kernel
theorem dX9_countOf_56 : decode cX9_countOf 56 = .ok (.iconst (-1), 1) := by decide +kernel
theorem dX9_countOf_57 : decode cX9_countOf 57 = .ok (.goto 11, 3) := by decide +kernel
theorem dX9_countOf_60 : decode cX9_countOf 60 = .ok (.aload_n 0, 1) := by decide +kernel
theorem dX9_countOf_61 : decode cX9_countOf 61 = .ok (.aload_n 0, 1) := by decide +kernel
theorem dX9_countOf_62 : decode cX9_countOf 62 = .ok (.getfield 152, 3) := by decide +kernel
theorem dX9_countOf_65 : decode cX9_countOf 65 = .ok (.invokevirtual 238, 3) := by decide +kernel
theorem dX9_countOf_68 : decode cX9_countOf 68 = .ok (.ireturn, 1) := by decide +kernel
theorem dX9_countOf_69 : decode cX9_countOf 69 = .ok (.aload_n 0, 1) := by decide +kernel
theorem dX9_countOf_70 : decode cX9_countOf 70 = .ok (.invokevirtual 315, 3) := by decide +kernel
theorem dX9_countOf_73 : decode cX9_countOf 73 = .ok (.ireturn, 1) := by decide +kernel
theorem dX9_countOf_74 : decode cX9_countOf 74 = .ok (.aload_n 0, 1) := by decide +kernel
theorem dX9_countOf_75 : decode cX9_countOf 75 = .ok (.getfield 162, 3) := by decide +kernel
theorem dX9_countOf_78 : decode cX9_countOf 78 = .ok (.ireturn, 1) := by decide +kernel
theorem dX9_countOf_79 : decode cX9_countOf 79 = .ok (.aload_n 0, 1) := by decide +kernel
theorem dX9_countOf_80 : decode cX9_countOf 80 = .ok (.getfield 120, 3) := by decide +kernel
theorem dX9_countOf_83 : decode cX9_countOf 83 = .ok (.ireturn, 1) := by decide +kernel
theorem dX9_countOf_84 : decode cX9_countOf 84 = .ok (.aload_n 0, 1) := by decide +kernel
theorem dX9_countOf_85 : decode cX9_countOf 85 = .ok (.getfield 165, 3) := by decide +kernel
theorem dX9_countOf_88 : decode cX9_countOf 88 = .ok (.ireturn, 1) := by decide +kernel
theorem dX9_countOf_89 : decode cX9_countOf 89 = .ok (.aload_n 0, 1) := by decide +kernel
theorem dX9_countOf_90 : decode cX9_countOf 90 = .ok (.getfield 255, 3) := by decide +kernel
theorem dX9_countOf_93 : decode cX9_countOf 93 = .ok (.ireturn, 1) := by decide +kernel
theorem dX9_countOf_94 : decode cX9_countOf 94 = .ok (.bipush (-102), 2) := by decide +kernel
theorem dX9_countOf_96 : decode cX9_countOf 96 = .ok (.ireturn, 1) := by decide +kernel
set_option maxRecDepth 20000 in
theorem ggX9_count_X9_countOf : GoodIn wsX9_count wsX9_countOf := goodIn_r _ [5, 6, 7, 8, 9, 10, 11, 12, 13, 14, 4, 15, 16, 17, 18, 19, 20, 21, 22, 23, 24, 25, 26, 27, 28, 29, 30, 31, 32, 33, 34, 35, 36, 37, 38, 39, 40, 41, 42, 43, 44, 45, 46, 47, 48, 49, 50, 51, 52, 53, 54, 55, 56, 57, 58, 59, 60, 61, 62, 63, 64, 65, 66, 67, 68, 69, 70, 71, 72, 73, 74, 75, 76] (by decide +kernel) (by decide +kernel)
set_option maxRecDepth 20000 in
theorem gX9_count_X9_countOf : GoodIn wsX9_count (wsV RX9 318 RX9 yX9_countOf wsX9_countOf) := goodIn_app (goodIn_of _ (by decide +kernel)) ggX9_count_X9_countOf
theorem dX9_count_0 : decode cX9_count 0 = .ok (.aload_n 0, 1) := by decide +kernel
theorem dX9_count_1 : decode cX9_count 1 = .ok (.iload_n 1, 1) := by decide +kernel
theorem dX9_count_2 : decode cX9_count 2 = .ok (.invokevirtual 318, 3) := by decide +kernel
theorem dX9_count_5 : decode cX9_count 5 = .ok (.ireturn, 1) := by decide +kernel
theorem dX9_say_0 : decode cX9_say 0 = .ok (.aload_n 0, 1) := by decide +kernel
theorem dX9_say_1 : decode cX9_say 1 = .ok (.ldc2_w 321, 3) := by decide +kernel
theorem dX9_say_4 : decode cX9_say 4 = .ok (.aload_n 0, 1) := by decide +kernel
theorem dX9_say_5 : decode cX9_say 5 = .ok (.getfield 323, 3) := by decide +kernel
theorem dX9_say_8 : decode cX9_say 8 = .ok (.lmul, 1) := by decide +kernel
theorem dX9_say_9 : decode cX9_say 9 = .ok (.lload_n 1, 1) := by decide +kernel
theorem dX9_say_10 : decode cX9_say 10 = .ok (.ladd, 1) := by decide +kernel
theorem dX9_say_11 : decode cX9_say 11 = .ok (.putfield 323, 3) := by decide +kernel
theorem dX9_say_14 : decode cX9_say 14 = .ok (.return_, 1) := by decide +kernel
set_option maxRecDepth 20000 in
theorem ggX9_digest_X9_tellChord : GoodIn wsX9_digest wsX9_tellChord := goodIn_r _ [10, 11, 12, 13, 14, 15, 9, 16, 17, 18, 19, 20, 21, 22, 23, 24, 25, 3, 26, 27, 28, 29, 30, 31, 32, 33, 34, 35, 36, 37, 38, 39, 40, 41, 42, 43, 44, 45, 46, 47, 48, 49, 50, 51, 52, 53, 54, 55, 56, 57, 58, 59, 60, 61, 62, 63, 64, 65, 66, 67, 68, 69, 70, 71, 72, 73, 74, 75, 76, 77, 78, 79, 80, 81, 82, 83, 84, 85, 86, 87, 88, 89, 90, 91, 92, 93, 94, 95, 96, 97, 98, 99, 100, 101, 102, 103, 104, 105, 106, 107, 108, 109, 110, 111, 112, 113, 114, 115, 116, 117, 118, 119, 120, 121, 153, 154, 155, 156, 157, 158, 159, 160, 161, 162, 163, 164, 165, 166, 167, 168, 169, 170, 171, 172, 173, 174, 175, 176, 177, 178, 179, 180, 181, 182, 183, 184, 185, 186, 187, 188, 189, 190, 191, 192, 193, 194, 195, 196] (by decide +kernel) (by decide +kernel)
set_option maxRecDepth 20000 in
theorem gX9_digest_X9_tellChord : GoodIn wsX9_digest (wsV RX9 270 RX9 yX9_tellChord wsX9_tellChord) := goodIn_app (goodIn_of _ (by decide +kernel)) ggX9_digest_X9_tellChord
set_option maxRecDepth 20000 in
theorem ggX9_digest_X9_say : GoodIn wsX9_digest wsX9_say := goodIn_r _ [125, 126, 2, 153, 154, 155, 156, 157, 158, 159, 160, 161, 162, 163, 164, 165, 166, 167, 168, 169, 170, 171, 172, 173, 174, 175, 176, 177, 178, 179, 180, 181, 182, 183, 184, 185, 186, 187, 188, 189, 190, 191, 192, 193, 194, 195, 196] (by decide +kernel) (by decide +kernel)
set_option maxRecDepth 20000 in
theorem gX9_digest_X9_say : GoodIn wsX9_digest (wsV RX9 329 RX9 yX9_say wsX9_say) := goodIn_app (goodIn_of _ (by decide +kernel)) ggX9_digest_X9_say
set_option maxRecDepth 20000 in
theorem ggX9_digest_X9_settingOf : GoodIn wsX9_digest wsX9_settingOf := goodIn_r _ [130, 96, 17, 18, 19, 9, 20, 21, 22, 23, 24, 25, 3, 26, 27, 28, 29, 30, 31, 32, 33, 34, 35, 36, 37, 38, 39, 40, 12, 11, 41, 42, 43, 44, 45, 46, 47, 48, 49, 50, 51, 52, 53, 54, 55, 56, 57, 58, 59, 60, 61, 62, 63, 64, 65, 66, 67, 68, 69, 70, 71, 72, 73, 74, 75, 76, 77, 78, 79, 80, 81, 82, 83, 84, 85, 86, 87, 88, 89, 90, 91, 92, 93, 94, 95, 97, 98, 99, 100, 101, 102, 103, 104, 105, 153, 154, 155, 156, 157, 158, 159, 160, 161, 162, 163, 164, 165, 166, 167, 168, 169, 170, 171, 172, 173, 174, 175, 176, 177, 178, 179, 180, 181, 182, 183, 184, 185, 186, 187, 188, 189, 190, 191, 192, 193, 194, 195, 196] (by decide +kernel) (by decide +kernel)
set_option maxRecDepth 20000 in
theorem gX9_digest_X9_settingOf : GoodIn wsX9_digest (wsV RX9 244 RX9 yX9_settingOf wsX9_settingOf) := goodIn_app (goodIn_of _ (by decide +kernel)) ggX9_digest_X9_settingOf
set_option maxRecDepth 20000 in
theorem ggX9_digest_X9_reachOf : GoodIn wsX9_digest wsX9_reachOf := goodIn_r _ [134, 26, 17, 18, 19, 9, 20, 21, 22, 23, 24, 25, 3, 27, 28, 29, 30, 31, 32, 33, 34, 35, 36, 37, 38, 39, 40, 12, 11, 41, 42, 43, 44, 45, 46, 47, 48, 49, 50, 51, 52, 53, 54, 55, 56, 57, 58, 59, 60, 61, 62, 63, 64, 65, 66, 67, 68, 69, 70, 71, 72, 73, 74, 75, 76, 77, 78, 79, 80, 81, 82, 83, 84, 85, 86, 87, 88, 89, 90, 91, 92, 93, 94, 95, 96, 153, 154, 155, 156, 157, 158, 159, 160, 161, 162, 163, 164, 165, 166, 167, 168, 169, 170, 171, 172, 173, 174, 175, 176, 177, 178, 179, 180, 181, 182, 183, 184, 185, 186, 187, 188, 189, 190, 191, 192, 193, 194, 195, 196] (by decide +kernel) (by decide +kernel)
set_option maxRecDepth 20000 in
theorem gX9_digest_X9_reachOf : GoodIn wsX9_digest (wsV RX9 247 RX9 yX9_reachOf wsX9_reachOf) := goodIn_app (goodIn_of _ (by decide +kernel)) ggX9_digest_X9_reachOf
set_option maxRecDepth 20000 in
theorem ggX9_digest_X9_planOf : GoodIn wsX9_digest wsX9_planOf := goodIn_r _ [138, 23, 28, 24, 25, 17, 18, 19, 9, 20, 21, 22, 3, 26, 27, 29, 30, 31, 32, 33, 34, 35, 36, 37, 38, 39, 40, 12, 11, 41, 42, 43, 44, 45, 46, 47, 48, 49, 50, 51, 52, 53, 54, 55, 56, 57, 58, 59, 60, 61, 62, 63, 64, 65, 66, 67, 68, 69, 70, 71, 72, 73, 74, 75, 76, 77, 78, 79, 80, 81, 82, 83, 84, 85, 86, 87, 88, 89, 90, 91, 92, 93, 94, 95, 96, 153, 154, 155, 156, 157, 158, 159, 160, 161, 162, 163, 164, 165, 166, 167, 168, 169, 170, 171, 172, 173, 174, 175, 176, 177, 178, 179, 180, 181, 182, 183, 184, 185, 186, 187, 188, 189, 190, 191, 192, 193, 194, 195, 196] (by decide +kernel) (by decide +kernel)
set_option maxRecDepth 20000 in
theorem gX9_digest_X9_planOf : GoodIn wsX9_digest (wsV RX9 235 RX9 yX9_planOf wsX9_planOf) := goodIn_app (goodIn_of _ (by decide +kernel)) ggX9_digest_X9_planOf
set_option maxRecDepth 20000 in
theorem ggX9_digest_X9_countOf : GoodIn wsX9_digest wsX9_countOf := goodIn_r _ [142, 3, 22, 110, 4, 143, 144, 145, 146, 147, 9, 148, 97, 98, 99, 100, 101, 102, 103, 104, 105, 149, 150, 151, 152, 12, 119, 120, 121, 153, 154, 155, 156, 157, 158, 159, 160, 161, 162, 163, 164, 165, 166, 167, 168, 169, 170, 171, 172, 173, 174, 175, 176, 177, 178, 179, 180, 181, 182, 183, 184, 185, 186, 187, 188, 189, 190, 191, 192, 193, 194, 195, 196] (by decide +kernel) (by decide +kernel)
set_option maxRecDepth 20000 in
theorem gX9_digest_X9_countOf : GoodIn wsX9_digest (wsV RX9 318 RX9 yX9_countOf wsX9_countOf) := goodIn_app (goodIn_of _ (by decide +kernel)) ggX9_digest_X9_countOf
theorem dX9_digest_0 : decode cX9_digest 0 = .ok (.aload_n 0, 1) := by decide +kernel
theorem dX9_digest_1 : decode cX9_digest 1 = .ok (.ldc2_w 327, 3) := by decide +kernel
theorem dX9_digest_4 : decode cX9_digest 4 = .ok (.putfield 323, 3) := by decide +kernel
theorem dX9_digest_7 : decode cX9_digest 7 = .ok (.iconst 0, 1) := by decide +kernel
theorem dX9_digest_8 : decode cX9_digest 8 = .ok (.istore_n 1, 1) := by decide +kernel
theorem dX9_digest_9 : decode cX9_digest 9 = .ok (.iload_n 1, 1) := by decide +kernel
theorem dX9_digest_10 : decode cX9_digest 10 = .ok (.aload_n 0, 1) := by decide +kernel
theorem dX9_digest_11 : decode cX9_digest 11 = .ok (.getfield 155, 3) := by decide +kernel
theorem dX9_digest_14 : decode cX9_digest 14 = .ok (.if_icmp .ge 54, 3) := by decide +kernel
theorem dX9_digest_17 : decode cX9_digest 17 = .ok (.iconst 0, 1) := by decide +kernel
theorem dX9_digest_18 : decode cX9_digest 18 = .ok (.istore_n 2, 1) := by decide +kernel
theorem dX9_digest_19 : decode cX9_digest 19 = .ok (.iload_n 2, 1) := by decide +kernel
theorem dX9_digest_20 : decode cX9_digest 20 = .ok (.bipush 6, 2) := by decide +kernel
theorem dX9_digest_22 : decode cX9_digest 22 = .ok (.if_icmp .ge 20, 3) := by decide +kernel
theorem dX9_digest_25 : decode cX9_digest 25 = .ok (.aload_n 0, 1) := by decide +kernel
theorem dX9_digest_26 : decode cX9_digest 26 = .ok (.aload_n 0, 1) := by decide +kernel
theorem dX9_digest_27 : decode cX9_digest 27 = .ok (.iload_n 1, 1) := by decide +kernel
theorem dX9_digest_28 : decode cX9_digest 28 = .ok (.iload_n 2, 1) := by decide +kernel
theorem dX9_digest_29 : decode cX9_digest 29 = .ok (.invokevirtual 270, 3) := by decide +kernel
theorem dX9_digest_32 : decode cX9_digest 32 = .ok (.i2l, 1) := by decide +kernel
theorem dX9_digest_33 : decode cX9_digest 33 = .ok (.invokevirtual 329, 3) := by decide +kernel
theorem dX9_digest_36 : decode cX9_digest 36 = .ok (.iinc 2 1, 3) := by decide +kernel
theorem dX9_digest_39 : decode cX9_digest 39 = .ok (.goto (-20), 3) := by decide +kernel
theorem dX9_digest_42 : decode cX9_digest 42 = .ok (.aload_n 0, 1) := by decide +kernel
theorem dX9_digest_43 : decode cX9_digest 43 = .ok (.aload_n 0, 1) := by decide +kernel
theorem dX9_digest_44 : decode cX9_digest 44 = .ok (.iload_n 1, 1) := by decide +kernel
theorem dX9_digest_45 : decode cX9_digest 45 = .ok (.invokevirtual 244, 3) := by decide +kernel
theorem dX9_digest_48 : decode cX9_digest 48 = .ok (.i2l, 1) := by decide +kernel
theorem dX9_digest_49 : decode cX9_digest 49 = .ok (.invokevirtual 329, 3) := by decide +kernel
theorem dX9_digest_52 : decode cX9_digest 52 = .ok (.aload_n 0, 1) := by decide +kernel
theorem dX9_digest_53 : decode cX9_digest 53 = .ok (.aload_n 0, 1) := by decide +kernel
theorem dX9_digest_54 : decode cX9_digest 54 = .ok (.iload_n 1, 1) := by decide +kernel
theorem dX9_digest_55 : decode cX9_digest 55 = .ok (.invokevirtual 247, 3) := by decide +kernel
theorem dX9_digest_58 : decode cX9_digest 58 = .ok (.i2l, 1) := by decide +kernel
theorem dX9_digest_59 : decode cX9_digest 59 = .ok (.invokevirtual 329, 3) := by decide +kernel
theorem dX9_digest_62 : decode cX9_digest 62 = .ok (.iinc 1 1, 3) := by decide +kernel
theorem dX9_digest_65 : decode cX9_digest 65 = .ok (.goto (-56), 3) := by decide +kernel
theorem dX9_digest_68 : decode cX9_digest 68 = .ok (.iconst 0, 1) := by decide +kernel
theorem dX9_digest_69 : decode cX9_digest 69 = .ok (.istore_n 1, 1) := by decide +kernel
theorem dX9_digest_70 : decode cX9_digest 70 = .ok (.iload_n 1, 1) := by decide +kernel
theorem dX9_digest_71 : decode cX9_digest 71 = .ok (.iconst 3, 1) := by decide +kernel
theorem dX9_digest_72 : decode cX9_digest 72 = .ok (.if_icmp .ge 26, 3) := by decide +kernel
theorem dX9_digest_75 : decode cX9_digest 75 = .ok (.aload_n 0, 1) := by decide +kernel
theorem dX9_digest_76 : decode cX9_digest 76 = .ok (.getfield 155, 3) := by decide +kernel
theorem dX9_digest_79 : decode cX9_digest 79 = .ok (.ifCond .le 19, 3) := by decide +kernel
theorem dX9_digest_82 : decode cX9_digest 82 = .ok (.aload_n 0, 1) := by decide +kernel
theorem dX9_digest_83 : decode cX9_digest 83 = .ok (.aload_n 0, 1) := by decide +kernel
theorem dX9_digest_84 : decode cX9_digest 84 = .ok (.iload_n 1, 1) := by decide +kernel
theorem dX9_digest_85 : decode cX9_digest 85 = .ok (.invokevirtual 235, 3) := by decide +kernel
theorem dX9_digest_88 : decode cX9_digest 88 = .ok (.i2l, 1) := by decide +kernel
theorem dX9_digest_89 : decode cX9_digest 89 = .ok (.invokevirtual 329, 3) := by decide +kernel
theorem dX9_digest_92 : decode cX9_digest 92 = .ok (.iinc 1 1, 3) := by decide +kernel
theorem dX9_digest_95 : decode cX9_digest 95 = .ok (.goto (-25), 3) := by decide +kernel
theorem dX9_digest_98 : decode cX9_digest 98 = .ok (.iconst 0, 1) := by decide +kernel
theorem dX9_digest_99 : decode cX9_digest 99 = .ok (.istore_n 1, 1) := by decide +kernel
theorem dX9_digest_100 : decode cX9_digest 100 = .ok (.iload_n 1, 1) := by decide +kernel
theorem dX9_digest_101 : decode cX9_digest 101 = .ok (.aload_n 0, 1) := by decide +kernel
theorem dX9_digest_102 : decode cX9_digest 102 = .ok (.getfield 120, 3) := by decide +kernel
theorem dX9_digest_105 : decode cX9_digest 105 = .ok (.if_icmp .ge 20, 3) := by decide +kernel
theorem dX9_digest_108 : decode cX9_digest 108 = .ok (.aload_n 0, 1) := by decide +kernel
theorem dX9_digest_109 : decode cX9_digest 109 = .ok (.aload_n 0, 1) := by decide +kernel
theorem dX9_digest_110 : decode cX9_digest 110 = .ok (.getfield 41, 3) := by decide +kernel
theorem dX9_digest_113 : decode cX9_digest 113 = .ok (.iload_n 1, 1) := by decide +kernel
theorem dX9_digest_114 : decode cX9_digest 114 = .ok (.iaload, 1) := by decide +kernel
theorem dX9_digest_115 : decode cX9_digest 115 = .ok (.i2l, 1) := by decide +kernel
theorem dX9_digest_116 : decode cX9_digest 116 = .ok (.invokevirtual 329, 3) := by decide +kernel
theorem dX9_digest_119 : decode cX9_digest 119 = .ok (.iinc 1 1, 3) := by decide +kernel
theorem dX9_digest_122 : decode cX9_digest 122 = .ok (.goto (-22), 3) := by decide +kernel
theorem dX9_digest_125 : decode cX9_digest 125 = .ok (.iconst 0, 1) := by decide +kernel
theorem dX9_digest_126 : decode cX9_digest 126 = .ok (.istore_n 1, 1) := by decide +kernel
theorem dX9_digest_127 : decode cX9_digest 127 = .ok (.iload_n 1, 1) := by decide +kernel
theorem dX9_digest_128 : decode cX9_digest 128 = .ok (.bipush 7, 2) := by decide +kernel
theorem dX9_digest_130 : decode cX9_digest 130 = .ok (.if_icmp .ge 19, 3) := by decide +kernel
theorem dX9_digest_133 : decode cX9_digest 133 = .ok (.aload_n 0, 1) := by decide +kernel
theorem dX9_digest_134 : decode cX9_digest 134 = .ok (.aload_n 0, 1) := by decide +kernel
theorem dX9_digest_135 : decode cX9_digest 135 = .ok (.iload_n 1, 1) := by decide +kernel
theorem dX9_digest_136 : decode cX9_digest 136 = .ok (.invokevirtual 318, 3) := by decide +kernel
theorem dX9_digest_139 : decode cX9_digest 139 = .ok (.i2l, 1) := by decide +kernel
theorem dX9_digest_140 : decode cX9_digest 140 = .ok (.invokevirtual 329, 3) := by decide +kernel
theorem dX9_digest_143 : decode cX9_digest 143 = .ok (.iinc 1 1, 3) := by decide +kernel
theorem dX9_digest_146 : decode cX9_digest 146 = .ok (.goto (-19), 3) := by decide +kernel
theorem dX9_digest_149 : decode cX9_digest 149 = .ok (.aload_n 0, 1) := by decide +kernel
theorem dX9_digest_150 : decode cX9_digest 150 = .ok (.getfield 323, 3) := by decide +kernel
theorem dX9_digest_153 : decode cX9_digest 153 = .ok (.lreturn, 1) := by decide +kernel
































































