theorem dX2_init_133 : decode cX2_init 133 = .ok (.istore 4, 2) := by decide +kernel
theorem dX2_init_135 : decode cX2_init 135 = .ok (.iload 4, 2) := by decide +kernel
theorem dX2_init_137 : decode cX2_init 137 = .ok (.iload_n 3, 1) := by decide +kernel
theorem dX2_init_138 : decode cX2_init 138 = .ok (.if_icmp .gt 52, 3) := by decide +kernel
theorem dX2_init_141 : decode cX2_init 141 = .ok (.aload_n 0, 1) := by decide +kernel
theorem dX2_init_142 : decode cX2_init 142 = .ok (.getfield 9, 3) := by decide +kernel
theorem dX2_init_145 : decode cX2_init 145 = .ok (.iload_n 3, 1) := by decide +kernel
theorem dX2_init_146 : decode cX2_init 146 = .ok (.bipush 41, 2) := by decide +kernel
theorem dX2_init_148 : decode cX2_init 148 = .ok (.imul, 1) := by decide +kernel
theorem dX2_init_149 : decode cX2_init 149 = .ok (.iload 4, 2) := by decide +kernel
theorem dX2_init_151 : decode cX2_init 151 = .ok (.iadd, 1) := by decide +kernel
theorem dX2_init_152 : decode cX2_init 152 = .ok (.aload_n 0, 1) := by decide +kernel
theorem dX2_init_153 : decode cX2_init 153 = .ok (.getfield 9, 3) := by decide +kernel
theorem dX2_init_156 : decode cX2_init 156 = .ok (.iload_n 3, 1) := by decide +kernel
theorem dX2_init_157 : decode cX2_init 157 = .ok (.iconst 1, 1) := by decide +kernel
theorem dX2_init_158 : decode cX2_init 158 = .ok (.isub, 1) := by decide +kernel
theorem dX2_init_159 : decode cX2_init 159 = .ok (.bipush 41, 2) := by decide +kernel
theorem dX2_init_161 : decode cX2_init 161 = .ok (.imul, 1) := by decide +kernel
theorem dX2_init_162 : decode cX2_init 162 = .ok (.iload 4, 2) := by decide +kernel
theorem dX2_init_164 : decode cX2_init 164 = .ok (.iadd, 1) := by decide +kernel
theorem dX2_init_165 : decode cX2_init 165 = .ok (.iconst 1, 1) := by decide +kernel
theorem dX2_init_166 : decode cX2_init 166 = .ok (.isub, 1) := by decide +kernel
theorem dX2_init_167 : decode cX2_init 167 = .ok (.laload, 1) := by decide +kernel
theorem dX2_init_168 : decode cX2_init 168 = .ok (.aload_n 0, 1) := by decide +kernel
theorem dX2_init_169 : decode cX2_init 169 = .ok (.getfield 9, 3) := by decide +kernel
theorem dX2_init_172 : decode cX2_init 172 = .ok (.iload_n 3, 1) := by decide +kernel
theorem dX2_init_173 : decode cX2_init 173 = .ok (.iconst 1, 1) := by decide +kernel
theorem dX2_init_174 : decode cX2_init 174 = .ok (.isub, 1) := by decide +kernel
theorem dX2_init_175 : decode cX2_init 175 = .ok (.bipush 41, 2) := by decide +kernel
theorem dX2_init_177 : decode cX2_init 177 = .ok (.imul, 1) := by decide +kernel
theorem dX2_init_178 : decode cX2_init 178 = .ok (.iload 4, 2) := by decide +kernel
theorem dX2_init_180 : decode cX2_init 180 = .ok (.iadd, 1) := by decide +kernel
theorem dX2_init_181 : decode cX2_init 181 = .ok (.laload, 1) := by decide +kernel
theorem dX2_init_182 : decode cX2_init 182 = .ok (.ladd, 1) := by decide +kernel
theorem dX2_init_183 : decode cX2_init 183 = .ok (.lastore, 1) := by decide +kernel
theorem dX2_init_184 : decode cX2_init 184 = .ok (.iinc 4 1, 3) := by decide +kernel
theorem dX2_init_187 : decode cX2_init 187 = .ok (.goto (-52), 3) := by decide +kernel
theorem dX2_init_190 : decode cX2_init 190 = .ok (.iinc 3 1, 3) := by decide +kernel
theorem dX2_init_193 : decode cX2_init 193 = .ok (.goto (-77), 3) := by decide +kernel
theorem dX2_init_196 : decode cX2_init 196 = .ok (.return_, 1) := by decide +kernel
theorem dX2_answer_0 : decode cX2_answer 0 = .ok (.aload_n 0, 1) := by decide +kernel
theorem dX2_answer_1 : decode cX2_answer 1 = .ok (.getfield 62, 3) := by decide +kernel
theorem dX2_answer_4 : decode cX2_answer 4 = .ok (.ifCond .eq 25, 3) := by decide +kernel
theorem dX2_answer_7 : decode cX2_answer 7 = .ok (.iload_n 1, 1) := by decide +kernel
theorem dX2_answer_8 : decode cX2_answer 8 = .ok (.ifCond .lt 21, 3) := by decide +kernel
theorem dX2_answer_11 : decode cX2_answer 11 = .ok (.iload_n 1, 1) := by decide +kernel
theorem dX2_answer_12 : decode cX2_answer 12 = .ok (.aload_n 0, 1) := by decide +kernel
theorem dX2_answer_13 : decode cX2_answer 13 = .ok (.getfield 38, 3) := by decide +kernel
theorem dX2_answer_16 : decode cX2_answer 16 = .ok (.arraylength, 1) := by decide +kernel
theorem dX2_answer_17 : decode cX2_answer 17 = .ok (.if_icmp .ge 12, 3) := by decide +kernel
theorem dX2_answer_20 : decode cX2_answer 20 = .ok (.aload_n 0, 1) := by decide +kernel
theorem dX2_answer_21 : decode cX2_answer 21 = .ok (.getfield 38, 3) := by decide +kernel
theorem dX2_answer_24 : decode cX2_answer 24 = .ok (.iload_n 1, 1) := by decide +kernel
theorem dX2_answer_25 : decode cX2_answer 25 = .ok (.laload, 1) := by decide +kernel
theorem dX2_answer_26 : decode cX2_answer 26 = .ok (.goto 6, 3) := by decide +kernel
theorem dX2_answer_29 : decode cX2_answer 29 = .ok (.ldc2_w 66, 3) := by decide +kernel
theorem dX2_answer_32 : decode cX2_answer 32 = .ok (.lreturn, 1) := by decide +kernel
set_option maxRecDepth 20000 in
theorem ggX2_reckon_X6_plan : GoodIn wsX2_reckon wsX6_plan := goodIn_r _ [9, 10, 218, 219, 220, 221, 222, 223, 224, 225, 226, 227] (by decide +kernel) (by decide +kernel)
set_option maxRecDepth 20000 in
theorem gX2_reckon_X6_plan : GoodIn wsX2_reckon (wsV RX2 68 RX6 yX6_plan wsX6_plan) := goodIn_app (goodIn_of _ (by decide +kernel)) ggX2_reckon_X6_plan
set_option maxRecDepth 20000 in
theorem ggX2_reckon_X6_stepsDone : GoodIn wsX2_reckon wsX6_stepsDone := goodIn_r _ [14, 15, 218, 219, 220, 221, 222, 223, 224, 225, 226, 227] (by decide +kernel) (by decide +kernel)
set_option maxRecDepth 20000 in
theorem gX2_reckon_X6_stepsDone : GoodIn wsX2_reckon (wsV RX2 74 RX6 yX6_stepsDone wsX6_stepsDone) := goodIn_app (goodIn_of _ (by decide +kernel)) ggX2_reckon_X6_stepsDone
set_option maxRecDepth 20000 in
theorem ggX2_reckon_X3_length : GoodIn wsX2_reckon wsX3_length := goodIn_r _ [20, 21, 228, 229, 230, 231, 232] (by decide +kernel) (by decide +kernel)
set_option maxRecDepth 20000 in
theorem gX2_reckon_X3_length : GoodIn wsX2_reckon (wsV RX2 78 RX3 yX3_length wsX3_length) := goodIn_app (goodIn_of _ (by decide +kernel)) ggX2_reckon_X3_length
set_option maxRecDepth 20000 in
theorem ggX2_reckon_J7_fill_d0a16 : GoodIn wsX2_reckon wsJ7_fill_d0a16 := goodIn_r _ [25] (by decide +kernel) (by decide +kernel)
set_option maxRecDepth 20000 in
theorem gX2_reckon_J7_fill_d0a16 : GoodIn wsX2_reckon (va_wsS RX2 83 yJ7_fill_d0a16 wsJ7_fill_d0a16) := goodIn_app (goodIn_of _ (by decide +kernel)) ggX2_reckon_J7_fill_d0a16
set_option maxRecDepth 20000 in
theorem ggX2_reckon_X2_countAllWays : GoodIn wsX2_reckon wsX2_countAllWays := goodIn_r _ [30, 1, 31, 2, 32, 33, 34, 35, 36, 37, 38, 39, 8, 40, 15, 41, 42, 43, 44, 45, 46, 47, 48, 49, 50, 51, 52, 53, 54, 55, 56, 57, 58, 59, 60, 61, 62, 16, 17, 18, 19, 20, 21, 63, 64, 65, 29, 66, 67, 68, 69, 70, 71, 72, 73, 74, 75, 76, 77, 78, 79, 80, 81, 82, 83, 84, 85, 202, 203, 204, 205, 206, 207, 208, 209, 210, 211, 212, 213, 214, 215, 216, 217, 218, 219, 220, 221, 222, 223, 224, 225, 226, 227, 233, 234, 235, 236, 237, 238, 239, 228, 229, 230, 231, 232] (by decide +kernel) (by decide +kernel)
set_option maxRecDepth 20000 in
theorem gX2_reckon_X2_countAllWays : GoodIn wsX2_reckon (wsV RX2 89 RX2 yX2_countAllWays wsX2_countAllWays) := goodIn_app (goodIn_of _ (by decide +kernel)) ggX2_reckon_X2_countAllWays
set_option maxRecDepth 20000 in
theorem ggX2_reckon_X2_lookAtCity : GoodIn wsX2_reckon wsX2_lookAtCity := goodIn_r _ [89, 90, 91, 92, 93, 94, 95, 96, 97, 51, 98, 99, 100, 101, 102, 103, 49, 50, 52, 53, 104, 55, 56, 57, 58, 59, 60, 61, 62, 105, 106, 107, 108, 109, 202, 203, 204, 205, 206, 207, 208, 209, 210, 211, 212, 213, 214, 215, 216, 217, 233, 234, 235, 236, 237, 238, 239] (by decide +kernel) (by decide +kernel)
set_option maxRecDepth 20000 in
theorem gX2_reckon_X2_lookAtCity : GoodIn wsX2_reckon (wsV RX2 93 RX2 yX2_lookAtCity wsX2_lookAtCity) := goodIn_app (goodIn_of _ (by decide +kernel)) ggX2_reckon_X2_lookAtCity
set_option maxRecDepth 20000 in
theorem ggX2_reckon_X2_startFromBody : GoodIn wsX2_reckon wsX2_startFromBody := goodIn_r _ [113, 114, 1, 91, 115, 116, 117, 24, 118, 37, 38, 39, 8, 40, 15, 41, 42, 43, 44, 45, 46, 47, 48, 49, 50, 51, 52, 53, 54, 55, 56, 57, 58, 59, 60, 61, 62, 119, 120, 121, 122, 123, 105, 106, 107, 108, 109, 124, 125, 126, 29, 127, 128, 101, 102, 129, 130, 131, 132, 133, 134, 135, 136, 137, 138, 139, 140, 141, 142, 143, 144, 145, 146, 202, 203, 204, 205, 206, 207, 208, 209, 210, 211, 212, 213, 214, 215, 216, 217, 218, 219, 220, 221, 222, 223, 224, 225, 226, 227, 233, 234, 235, 236, 237, 238, 239, 240, 241, 242, 243] (by decide +kernel) (by decide +kernel)
set_option maxRecDepth 20000 in
theorem gX2_reckon_X2_startFromBody : GoodIn wsX2_reckon (wsV RX2 96 RX2 yX2_startFromBody wsX2_startFromBody) := goodIn_app (goodIn_of _ (by decide +kernel)) ggX2_reckon_X2_startFromBody
set_option maxRecDepth 20000 in
theorem ggX2_reckon_X6_bodySize : GoodIn wsX2_reckon wsX6_bodySize := goodIn_r _ [40, 15, 41, 42, 43, 44, 8, 45, 46, 47, 48, 49, 50, 51, 52, 53, 54, 55, 56, 57, 58, 59, 60, 61, 62, 218, 219, 220, 221, 222, 223, 224, 225, 226, 227, 233, 234, 235, 236, 237, 238, 239] (by decide +kernel) (by decide +kernel)
set_option maxRecDepth 20000 in
theorem gX2_reckon_X6_bodySize : GoodIn wsX2_reckon (wsV RX2 99 RX6 yX6_bodySize wsX6_bodySize) := goodIn_app (goodIn_of _ (by decide +kernel)) ggX2_reckon_X6_bodySize
set_option maxRecDepth 20000 in
theorem ggX2_reckon_X2_passStep : GoodIn wsX2_reckon wsX2_passStep := goodIn_r _ [150, 151, 115, 129, 130, 131, 132, 133, 134, 135, 136, 117, 24, 118, 152, 153, 154, 155, 156, 157, 158, 159, 145, 160, 161, 162, 29, 163, 164, 165, 166, 167, 168, 146, 169, 170, 171, 172, 2, 76, 77, 78, 19, 79, 80, 72, 73, 74, 75, 21, 67, 68, 69, 70, 71, 173, 174, 175, 176, 32, 33, 34, 35, 114, 81, 82, 83, 84, 85, 177, 178, 179, 180, 181, 182, 183, 137, 138, 139, 140, 141, 142, 143, 144, 184, 185, 186, 187, 36, 188, 189, 190, 191, 192, 193, 194, 195, 196, 90, 197, 198, 199, 200, 201, 92, 94, 93, 116, 128, 101, 51, 102, 202, 203, 204, 205, 206, 207, 208, 209, 210, 211, 212, 213, 214, 215, 216, 217, 240, 241, 242, 243, 228, 229, 230, 231, 232] (by decide +kernel) (by decide +kernel)
set_option maxRecDepth 20000 in
theorem gX2_reckon_X2_passStep : GoodIn wsX2_reckon (wsV RX2 102 RX2 yX2_passStep wsX2_passStep) := goodIn_app (goodIn_of _ (by decide +kernel)) ggX2_reckon_X2_passStep
set_option maxRecDepth 20000 in
theorem ggX2_reckon_X3_sizeOf : GoodIn wsX2_reckon wsX3_sizeOf := goodIn_r _ [79, 80, 72, 73, 74, 19, 75, 21, 228, 229, 230, 231, 232] (by decide +kernel) (by decide +kernel)
set_option maxRecDepth 20000 in
theorem gX2_reckon_X3_sizeOf : GoodIn wsX2_reckon (wsV RX2 106 RX3 yX3_sizeOf wsX3_sizeOf) := goodIn_app (goodIn_of _ (by decide +kernel)) ggX2_reckon_X3_sizeOf
theorem dX2_reckon_0 : decode cX2_reckon 0 = .ok (.aload_n 0, 1) := by decide +kernel
theorem dX2_reckon_1 : decode cX2_reckon 1 = .ok (.getfield 58, 3) := by decide +kernel
theorem dX2_reckon_4 : decode cX2_reckon 4 = .ok (.invokevirtual 68, 3) := by decide +kernel
theorem dX2_reckon_7 : decode cX2_reckon 7 = .ok (.astore_n 1, 1) := by decide +kernel
theorem dX2_reckon_8 : decode cX2_reckon 8 = .ok (.aload_n 0, 1) := by decide +kernel
theorem dX2_reckon_9 : decode cX2_reckon 9 = .ok (.getfield 58, 3) := by decide +kernel
theorem dX2_reckon_12 : decode cX2_reckon 12 = .ok (.invokevirtual 74, 3) := by decide +kernel
theorem dX2_reckon_15 : decode cX2_reckon 15 = .ok (.istore_n 2, 1) := by decide +kernel
theorem dX2_reckon_16 : decode cX2_reckon 16 = .ok (.iload_n 2, 1) := by decide +kernel
theorem dX2_reckon_17 : decode cX2_reckon 17 = .ok (.aload_n 1, 1) := by decide +kernel
theorem dX2_reckon_18 : decode cX2_reckon 18 = .ok (.invokevirtual 78, 3) := by decide +kernel
theorem dX2_reckon_21 : decode cX2_reckon 21 = .ok (.if_icmp .lt 5, 3) := by decide +kernel
theorem dX2_reckon_24 : decode cX2_reckon 24 = .ok (.iconst (-1), 1) := by decide +kernel
theorem dX2_reckon_25 : decode cX2_reckon 25 = .ok (.ireturn, 1) := by decide +kernel
theorem dX2_reckon_26 : decode cX2_reckon 26 = .ok (.aload_n 0, 1) := by decide +kernel
theorem dX2_reckon_27 : decode cX2_reckon 27 = .ok (.getfield 41, 3) := by decide +kernel
theorem dX2_reckon_30 : decode cX2_reckon 30 = .ok (.lconst 0, 1) := by decide +kernel
theorem dX2_reckon_31 : decode cX2_reckon 31 = .ok (.invokestatic 83, 3) := by decide +kernel
theorem dX2_reckon_34 : decode cX2_reckon 34 = .ok (.aload_n 0, 1) := by decide +kernel
theorem dX2_reckon_35 : decode cX2_reckon 35 = .ok (.aload_n 1, 1) := by decide +kernel
theorem dX2_reckon_36 : decode cX2_reckon 36 = .ok (.iload_n 2, 1) := by decide +kernel
theorem dX2_reckon_37 : decode cX2_reckon 37 = .ok (.invokevirtual 89, 3) := by decide +kernel
theorem dX2_reckon_40 : decode cX2_reckon 40 = .ok (.ifCond .ne 6, 3) := by decide +kernel
theorem dX2_reckon_43 : decode cX2_reckon 43 = .ok (.bipush (-2), 2) := by decide +kernel
theorem dX2_reckon_45 : decode cX2_reckon 45 = .ok (.ireturn, 1) := by decide +kernel
theorem dX2_reckon_46 : decode cX2_reckon 46 = .ok (.aload_n 0, 1) := by decide +kernel
theorem dX2_reckon_47 : decode cX2_reckon 47 = .ok (.invokevirtual 93, 3) := by decide +kernel
theorem dX2_reckon_50 : decode cX2_reckon 50 = .ok (.aload_n 0, 1) := by decide +kernel
theorem dX2_reckon_51 : decode cX2_reckon 51 = .ok (.invokevirtual 96, 3) := by decide +kernel
theorem dX2_reckon_54 : decode cX2_reckon 54 = .ok (.aload_n 0, 1) := by decide +kernel
theorem dX2_reckon_55 : decode cX2_reckon 55 = .ok (.getfield 58, 3) := by decide +kernel
theorem dX2_reckon_58 : decode cX2_reckon 58 = .ok (.invokevirtual 99, 3) := by decide +kernel
theorem dX2_reckon_61 : decode cX2_reckon 61 = .ok (.istore_n 3, 1) := by decide +kernel
theorem dX2_reckon_62 : decode cX2_reckon 62 = .ok (.iload_n 2, 1) := by decide +kernel
theorem dX2_reckon_63 : decode cX2_reckon 63 = .ok (.istore 4, 2) := by decide +kernel
theorem dX2_reckon_65 : decode cX2_reckon 65 = .ok (.iload 4, 2) := by decide +kernel
theorem dX2_reckon_67 : decode cX2_reckon 67 = .ok (.aload_n 1, 1) := by decide +kernel
theorem dX2_reckon_68 : decode cX2_reckon 68 = .ok (.invokevirtual 78, 3) := by decide +kernel
theorem dX2_reckon_71 : decode cX2_reckon 71 = .ok (.if_icmp .ge 30, 3) := by decide +kernel
theorem dX2_reckon_74 : decode cX2_reckon 74 = .ok (.aload_n 0, 1) := by decide +kernel
theorem dX2_reckon_75 : decode cX2_reckon 75 = .ok (.aload_n 1, 1) := by decide +kernel
theorem dX2_reckon_76 : decode cX2_reckon 76 = .ok (.iload 4, 2) := by decide +kernel
theorem dX2_reckon_78 : decode cX2_reckon 78 = .ok (.iload_n 3, 1) := by decide +kernel
theorem dX2_reckon_79 : decode cX2_reckon 79 = .ok (.invokevirtual 102, 3) := by decide +kernel
theorem dX2_reckon_82 : decode cX2_reckon 82 = .ok (.ifCond .ne 6, 3) := by decide +kernel
theorem dX2_reckon_85 : decode cX2_reckon 85 = .ok (.bipush (-2), 2) := by decide +kernel
theorem dX2_reckon_87 : decode cX2_reckon 87 = .ok (.ireturn, 1) := by decide +kernel
theorem dX2_reckon_88 : decode cX2_reckon 88 = .ok (.aload_n 1, 1) := by decide +kernel
theorem dX2_reckon_89 : decode cX2_reckon 89 = .ok (.iload 4, 2) := by decide +kernel
theorem dX2_reckon_91 : decode cX2_reckon 91 = .ok (.invokevirtual 106, 3) := by decide +kernel
theorem dX2_reckon_94 : decode cX2_reckon 94 = .ok (.istore_n 3, 1) := by decide +kernel
theorem dX2_reckon_95 : decode cX2_reckon 95 = .ok (.iinc 4 1, 3) := by decide +kernel
theorem dX2_reckon_98 : decode cX2_reckon 98 = .ok (.goto (-33), 3) := by decide +kernel
theorem dX2_reckon_101 : decode cX2_reckon 101 = .ok (.aload_n 0, 1) := by decide +kernel
theorem dX2_reckon_102 : decode cX2_reckon 102 = .ok (.getfield 38, 3) := by decide +kernel
theorem dX2_reckon_105 : decode cX2_reckon 105 = .ok (.astore 4, 2) := by decide +kernel
theorem dX2_reckon_107 : decode cX2_reckon 107 = .ok (.aload_n 0, 1) := by decide +kernel
theorem dX2_reckon_108 : decode cX2_reckon 108 = .ok (.aload_n 0, 1) := by decide +kernel
theorem dX2_reckon_109 : decode cX2_reckon 109 = .ok (.getfield 41, 3) := by decide +kernel
theorem dX2_reckon_112 : decode cX2_reckon 112 = .ok (.putfield 38, 3) := by decide +kernel
theorem dX2_reckon_115 : decode cX2_reckon 115 = .ok (.aload_n 0, 1) := by decide +kernel
theorem dX2_reckon_116 : decode cX2_reckon 116 = .ok (.aload 4, 2) := by decide +kernel
theorem dX2_reckon_118 : decode cX2_reckon 118 = .ok (.putfield 41, 3) := by decide +kernel
theorem dX2_reckon_121 : decode cX2_reckon 121 = .ok (.aload_n 0, 1) := by decide +kernel
theorem dX2_reckon_122 : decode cX2_reckon 122 = .ok (.iconst 1, 1) := by decide +kernel
theorem dX2_reckon_123 : decode cX2_reckon 123 = .ok (.putfield 62, 3) := by decide +kernel
theorem dX2_reckon_126 : decode cX2_reckon 126 = .ok (.iconst 0, 1) := by decide +kernel
theorem dX2_reckon_127 : decode cX2_reckon 127 = .ok (.ireturn, 1) := by decide +kernel
set_option maxRecDepth 20000 in
theorem ggX2_countAllWays_X6_bodySize : GoodIn wsX2_countAllWays wsX6_bodySize := goodIn_r _ [13, 14, 15, 16, 17, 18, 12, 19, 20, 21, 22, 23, 24, 25, 26, 27, 28, 29, 30, 31, 32, 33, 34, 35, 36, 83, 84, 85, 86, 87, 88, 89, 90, 91, 92, 93, 94, 95, 96, 97, 98, 99] (by decide +kernel) (by decide +kernel)
set_option maxRecDepth 20000 in
theorem gX2_countAllWays_X6_bodySize : GoodIn wsX2_countAllWays (wsV RX2 99 RX6 yX6_bodySize wsX6_bodySize) := goodIn_app (goodIn_of _ (by decide +kernel)) ggX2_countAllWays_X6_bodySize
set_option maxRecDepth 20000 in
theorem ggX2_countAllWays_X3_length : GoodIn wsX2_countAllWays wsX3_length := goodIn_r _ [41, 42, 100, 101, 102, 103, 104] (by decide +kernel) (by decide +kernel)
set_option maxRecDepth 20000 in
theorem gX2_countAllWays_X3_length : GoodIn wsX2_countAllWays (wsV RX2 78 RX3 yX3_length wsX3_length) := goodIn_app (goodIn_of _ (by decide +kernel)) ggX2_countAllWays_X3_length
set_option maxRecDepth 20000 in
theorem ggX2_countAllWays_X2_setsOfStep : GoodIn wsX2_countAllWays wsX2_setsOfStep := goodIn_r _ [47, 48, 49, 50, 40, 51, 52, 53, 54, 55, 56, 42, 57, 58, 59, 60, 61, 62, 63, 64, 46, 65, 66, 100, 101, 102, 103, 104, 67, 68, 69, 70, 71, 72, 73, 74, 75, 76, 77, 78, 79, 80, 81, 82] (by decide +kernel) (by decide +kernel)
set_option maxRecDepth 20000 in
theorem gX2_countAllWays_X2_setsOfStep : GoodIn wsX2_countAllWays (wsV RX2 110 RX2 yX2_setsOfStep wsX2_setsOfStep) := goodIn_app (goodIn_of _ (by decide +kernel)) ggX2_countAllWays_X2_setsOfStep
set_option maxRecDepth 20000 in
theorem ggX2_countAllWays_X3_sizeOf : GoodIn wsX2_countAllWays wsX3_sizeOf := goodIn_r _ [60, 61, 53, 54, 55, 40, 56, 42, 100, 101, 102, 103, 104] (by decide +kernel) (by decide +kernel)
set_option maxRecDepth 20000 in
theorem gX2_countAllWays_X3_sizeOf : GoodIn wsX2_countAllWays (wsV RX2 106 RX3 yX3_sizeOf wsX3_sizeOf) := goodIn_app (goodIn_of _ (by decide +kernel)) ggX2_countAllWays_X3_sizeOf
theorem dX2_countAllWays_0 : decode cX2_countAllWays 0 = .ok (.lconst 1, 1) := by decide +kernel
theorem dX2_countAllWays_1 : decode cX2_countAllWays 1 = .ok (.lstore_n 3, 1) := by decide +kernel
theorem dX2_countAllWays_2 : decode cX2_countAllWays 2 = .ok (.aload_n 0, 1) := by decide +kernel
theorem dX2_countAllWays_3 : decode cX2_countAllWays 3 = .ok (.getfield 58, 3) := by decide +kernel
theorem dX2_countAllWays_6 : decode cX2_countAllWays 6 = .ok (.invokevirtual 99, 3) := by decide +kernel
theorem dX2_countAllWays_9 : decode cX2_countAllWays 9 = .ok (.istore 5, 2) := by decide +kernel
theorem dX2_countAllWays_11 : decode cX2_countAllWays 11 = .ok (.iload_n 2, 1) := by decide +kernel
theorem dX2_countAllWays_12 : decode cX2_countAllWays 12 = .ok (.istore 6, 2) := by decide +kernel
theorem dX2_countAllWays_14 : decode cX2_countAllWays 14 = .ok (.iload 6, 2) := by decide +kernel
theorem dX2_countAllWays_16 : decode cX2_countAllWays 16 = .ok (.aload_n 1, 1) := by decide +kernel
theorem dX2_countAllWays_17 : decode cX2_countAllWays 17 = .ok (.invokevirtual 78, 3) := by decide +kernel
theorem dX2_countAllWays_20 : decode cX2_countAllWays 20 = .ok (.if_icmp .ge 52, 3) := by decide +kernel
theorem dX2_countAllWays_23 : decode cX2_countAllWays 23 = .ok (.aload_n 0, 1) := by decide +kernel
theorem dX2_countAllWays_24 : decode cX2_countAllWays 24 = .ok (.aload_n 1, 1) := by decide +kernel
theorem dX2_countAllWays_25 : decode cX2_countAllWays 25 = .ok (.iload 6, 2) := by decide +kernel
theorem dX2_countAllWays_27 : decode cX2_countAllWays 27 = .ok (.iload 5, 2) := by decide +kernel
theorem dX2_countAllWays_29 : decode cX2_countAllWays 29 = .ok (.invokevirtual 110, 3) := by decide +kernel
theorem dX2_countAllWays_32 : decode cX2_countAllWays 32 = .ok (.lstore 7, 2) := by decide +kernel
theorem dX2_countAllWays_34 : decode cX2_countAllWays 34 = .ok (.lload_n 3, 1) := by decide +kernel
theorem dX2_countAllWays_35 : decode cX2_countAllWays 35 = .ok (.lconst 1, 1) := by decide +kernel
theorem dX2_countAllWays_36 : decode cX2_countAllWays 36 = .ok (.lcmp, 1) := by decide +kernel
theorem dX2_countAllWays_37 : decode cX2_countAllWays 37 = .ok (.ifCond .lt 14, 3) := by decide +kernel
theorem dX2_countAllWays_40 : decode cX2_countAllWays 40 = .ok (.lload 7, 2) := by decide +kernel
theorem dX2_countAllWays_42 : decode cX2_countAllWays 42 = .ok (.ldc2_w 114, 3) := by decide +kernel
theorem dX2_countAllWays_45 : decode cX2_countAllWays 45 = .ok (.lload_n 3, 1) := by decide +kernel
theorem dX2_countAllWays_46 : decode cX2_countAllWays 46 = .ok (.ldiv, 1) := by decide +kernel
theorem dX2_countAllWays_47 : decode cX2_countAllWays 47 = .ok (.lcmp, 1) := by decide +kernel
theorem dX2_countAllWays_48 : decode cX2_countAllWays 48 = .ok (.ifCond .le 5, 3) := by decide +kernel
theorem dX2_countAllWays_51 : decode cX2_countAllWays 51 = .ok (.iconst 0, 1) := by decide +kernel
theorem dX2_countAllWays_52 : decode cX2_countAllWays 52 = .ok (.ireturn, 1) := by decide +kernel
theorem dX2_countAllWays_53 : decode cX2_countAllWays 53 = .ok (.lload_n 3, 1) := by decide +kernel
theorem dX2_countAllWays_54 : decode cX2_countAllWays 54 = .ok (.lload 7, 2) := by decide +kernel
theorem dX2_countAllWays_56 : decode cX2_countAllWays 56 = .ok (.lmul, 1) := by decide +kernel
theorem dX2_countAllWays_57 : decode cX2_countAllWays 57 = .ok (.lstore_n 3, 1) := by decide +kernel
theorem dX2_countAllWays_58 : decode cX2_countAllWays 58 = .ok (.aload_n 1, 1) := by decide +kernel
theorem dX2_countAllWays_59 : decode cX2_countAllWays 59 = .ok (.iload 6, 2) := by decide +kernel
theorem dX2_countAllWays_61 : decode cX2_countAllWays 61 = .ok (.invokevirtual 106, 3) := by decide +kernel
theorem dX2_countAllWays_64 : decode cX2_countAllWays 64 = .ok (.istore 5, 2) := by decide +kernel
theorem dX2_countAllWays_66 : decode cX2_countAllWays 66 = .ok (.iinc 6 1, 3) := by decide +kernel
theorem dX2_countAllWays_69 : decode cX2_countAllWays 69 = .ok (.goto (-55), 3) := by decide +kernel
theorem dX2_countAllWays_72 : decode cX2_countAllWays 72 = .ok (.aload_n 0, 1) := by decide +kernel
theorem dX2_countAllWays_73 : decode cX2_countAllWays 73 = .ok (.getfield 41, 3) := by decide +kernel
theorem dX2_countAllWays_76 : decode cX2_countAllWays 76 = .ok (.bipush 41, 2) := by decide +kernel
theorem dX2_countAllWays_78 : decode cX2_countAllWays 78 = .ok (.lload_n 3, 1) := by decide +kernel
theorem dX2_countAllWays_79 : decode cX2_countAllWays 79 = .ok (.lastore, 1) := by decide +kernel
theorem dX2_countAllWays_80 : decode cX2_countAllWays 80 = .ok (.lconst 1, 1) := by decide +kernel
theorem dX2_countAllWays_81 : decode cX2_countAllWays 81 = .ok (.lstore 6, 2) := by decide +kernel
theorem dX2_countAllWays_83 : decode cX2_countAllWays 83 = .ok (.aload_n 1, 1) := by decide +kernel
theorem dX2_countAllWays_84 : decode cX2_countAllWays 84 = .ok (.invokevirtual 78, 3) := by decide +kernel
theorem dX2_countAllWays_87 : decode cX2_countAllWays 87 = .ok (.bipush 12, 2) := by decide +kernel
theorem dX2_countAllWays_89 : decode cX2_countAllWays 89 = .ok (.invokestatic 116, 3) := by decide +kernel
theorem dX2_countAllWays_92 : decode cX2_countAllWays 92 = .ok (.iconst 1, 1) := by decide +kernel
theorem dX2_countAllWays_93 : decode cX2_countAllWays 93 = .ok (.isub, 1) := by decide +kernel
theorem dX2_countAllWays_94 : decode cX2_countAllWays 94 = .ok (.istore 8, 2) := by decide +kernel
theorem dX2_countAllWays_96 : decode cX2_countAllWays 96 = .ok (.iload 8, 2) := by decide +kernel
theorem dX2_countAllWays_98 : decode cX2_countAllWays 98 = .ok (.iload_n 2, 1) := by decide +kernel
theorem dX2_countAllWays_99 : decode cX2_countAllWays 99 = .ok (.if_icmp .lt 59, 3) := by decide +kernel
theorem dX2_countAllWays_102 : decode cX2_countAllWays 102 = .ok (.iload 8, 2) := by decide +kernel
theorem dX2_countAllWays_104 : decode cX2_countAllWays 104 = .ok (.ifCond .lt 54, 3) := by decide +kernel
theorem dX2_countAllWays_107 : decode cX2_countAllWays 107 = .ok (.aload_n 0, 1) := by decide +kernel
theorem dX2_countAllWays_108 : decode cX2_countAllWays 108 = .ok (.getfield 15, 3) := by decide +kernel
theorem dX2_countAllWays_111 : decode cX2_countAllWays 111 = .ok (.iload 8, 2) := by decide +kernel
theorem dX2_countAllWays_113 : decode cX2_countAllWays 113 = .ok (.lload 6, 2) := by decide +kernel
theorem dX2_countAllWays_115 : decode cX2_countAllWays 115 = .ok (.lastore, 1) := by decide +kernel
theorem dX2_countAllWays_116 : decode cX2_countAllWays 116 = .ok (.lload 6, 2) := by decide +kernel
theorem dX2_countAllWays_118 : decode cX2_countAllWays 118 = .ok (.aload_n 0, 1) := by decide +kernel
theorem dX2_countAllWays_119 : decode cX2_countAllWays 119 = .ok (.aload_n 1, 1) := by decide +kernel
theorem dX2_countAllWays_120 : decode cX2_countAllWays 120 = .ok (.iload 8, 2) := by decide +kernel
theorem dX2_countAllWays_122 : decode cX2_countAllWays 122 = .ok (.iload 8, 2) := by decide +kernel
theorem dX2_countAllWays_124 : decode cX2_countAllWays 124 = .ok (.iload_n 2, 1) := by decide +kernel
theorem dX2_countAllWays_125 : decode cX2_countAllWays 125 = .ok (.if_icmp .le 14, 3) := by decide +kernel
theorem dX2_countAllWays_128 : decode cX2_countAllWays 128 = .ok (.aload_n 1, 1) := by decide +kernel
theorem dX2_countAllWays_129 : decode cX2_countAllWays 129 = .ok (.iload 8, 2) := by decide +kernel
theorem dX2_countAllWays_131 : decode cX2_countAllWays 131 = .ok (.iconst 1, 1) := by decide +kernel
theorem dX2_countAllWays_132 : decode cX2_countAllWays 132 = .ok (.isub, 1) := by decide +kernel
theorem dX2_countAllWays_133 : decode cX2_countAllWays 133 = .ok (.invokevirtual 106, 3) := by decide +kernel
theorem dX2_countAllWays_136 : decode cX2_countAllWays 136 = .ok (.goto 10, 3) := by decide +kernel
theorem dX2_countAllWays_139 : decode cX2_countAllWays 139 = .ok (.aload_n 0, 1) := by decide +kernel
theorem dX2_countAllWays_140 : decode cX2_countAllWays 140 = .ok (.getfield 58, 3) := by decide +kernel
theorem dX2_countAllWays_143 : decode cX2_countAllWays 143 = .ok (.invokevirtual 99, 3) := by decide +kernel
theorem dX2_countAllWays_146 : decode cX2_countAllWays 146 = .ok (.invokevirtual 110, 3) := by decide +kernel
theorem dX2_countAllWays_149 : decode cX2_countAllWays 149 = .ok (.lmul, 1) := by decide +kernel
theorem dX2_countAllWays_150 : decode cX2_countAllWays 150 = .ok (.lstore 6, 2) := by decide +kernel
theorem dX2_countAllWays_152 : decode cX2_countAllWays 152 = .ok (.iinc 8 (-1), 3) := by decide +kernel
theorem dX2_countAllWays_155 : decode cX2_countAllWays 155 = .ok (.goto (-59), 3) := by decide +kernel
theorem dX2_countAllWays_158 : decode cX2_countAllWays 158 = .ok (.iconst 1, 1) := by decide +kernel
theorem dX2_countAllWays_159 : decode cX2_countAllWays 159 = .ok (.ireturn, 1) := by decide +kernel
set_option maxRecDepth 20000 in
theorem ggX2_setsOfStep_X3_kindOf : GoodIn wsX2_setsOfStep wsX3_kindOf := goodIn_r _ [5, 6, 7, 8, 9, 4, 10, 11, 23, 24, 25, 26, 27] (by decide +kernel) (by decide +kernel)
set_option maxRecDepth 20000 in
theorem gX2_setsOfStep_X3_kindOf : GoodIn wsX2_setsOfStep (wsV RX2 122 RX3 yX3_kindOf wsX3_kindOf) := goodIn_app (goodIn_of _ (by decide +kernel)) ggX2_setsOfStep_X3_kindOf
set_option maxRecDepth 20000 in
theorem ggX2_setsOfStep_X3_sizeOf : GoodIn wsX2_setsOfStep wsX3_sizeOf := goodIn_r _ [15, 16, 7, 8, 9, 4, 10, 11, 23, 24, 25, 26, 27] (by decide +kernel) (by decide +kernel)
set_option maxRecDepth 20000 in
theorem gX2_setsOfStep_X3_sizeOf : GoodIn wsX2_setsOfStep (wsV RX2 106 RX3 yX3_sizeOf wsX3_sizeOf) := goodIn_app (goodIn_of _ (by decide +kernel)) ggX2_setsOfStep_X3_sizeOf
set_option maxRecDepth 20000 in
theorem ggX2_setsOfStep_X2_setsOf : GoodIn wsX2_setsOfStep wsX2_setsOf := goodIn_r _ [21, 22, 28, 29, 30, 31, 32, 33, 34, 35, 36, 37, 38, 39, 40, 41, 42, 43] (by decide +kernel) (by decide +kernel)
set_option maxRecDepth 20000 in
theorem gX2_setsOfStep_X2_setsOf : GoodIn wsX2_setsOfStep (wsV RX2 125 RX2 yX2_setsOf wsX2_setsOf) := goodIn_app (goodIn_of _ (by decide +kernel)) ggX2_setsOfStep_X2_setsOf
theorem dX2_setsOfStep_0 : decode cX2_setsOfStep 0 = .ok (.aload_n 1, 1) := by decide +kernel
theorem dX2_setsOfStep_1 : decode cX2_setsOfStep 1 = .ok (.iload_n 2, 1) := by decide +kernel
theorem dX2_setsOfStep_2 : decode cX2_setsOfStep 2 = .ok (.invokevirtual 122, 3) := by decide +kernel
theorem dX2_setsOfStep_5 : decode cX2_setsOfStep 5 = .ok (.iconst 1, 1) := by decide +kernel
theorem dX2_setsOfStep_6 : decode cX2_setsOfStep 6 = .ok (.if_icmp .ne 16, 3) := by decide +kernel
theorem dX2_setsOfStep_9 : decode cX2_setsOfStep 9 = .ok (.aload_n 1, 1) := by decide +kernel
theorem dX2_setsOfStep_10 : decode cX2_setsOfStep 10 = .ok (.iload_n 2, 1) := by decide +kernel
theorem dX2_setsOfStep_11 : decode cX2_setsOfStep 11 = .ok (.invokevirtual 106, 3) := by decide +kernel
theorem dX2_setsOfStep_14 : decode cX2_setsOfStep 14 = .ok (.iload_n 3, 1) := by decide +kernel
theorem dX2_setsOfStep_15 : decode cX2_setsOfStep 15 = .ok (.if_icmp .gt 7, 3) := by decide +kernel
theorem dX2_setsOfStep_18 : decode cX2_setsOfStep 18 = .ok (.iconst 1, 1) := by decide +kernel
theorem dX2_setsOfStep_19 : decode cX2_setsOfStep 19 = .ok (.goto 4, 3) := by decide +kernel
theorem dX2_setsOfStep_22 : decode cX2_setsOfStep 22 = .ok (.iconst 0, 1) := by decide +kernel
theorem dX2_setsOfStep_23 : decode cX2_setsOfStep 23 = .ok (.istore 4, 2) := by decide +kernel
theorem dX2_setsOfStep_25 : decode cX2_setsOfStep 25 = .ok (.iload 4, 2) := by decide +kernel
theorem dX2_setsOfStep_27 : decode cX2_setsOfStep 27 = .ok (.ifCond .eq 16, 3) := by decide +kernel
theorem dX2_setsOfStep_30 : decode cX2_setsOfStep 30 = .ok (.aload_n 0, 1) := by decide +kernel
theorem dX2_setsOfStep_31 : decode cX2_setsOfStep 31 = .ok (.iload_n 3, 1) := by decide +kernel
theorem dX2_setsOfStep_32 : decode cX2_setsOfStep 32 = .ok (.aload_n 1, 1) := by decide +kernel
theorem dX2_setsOfStep_33 : decode cX2_setsOfStep 33 = .ok (.iload_n 2, 1) := by decide +kernel
theorem dX2_setsOfStep_34 : decode cX2_setsOfStep 34 = .ok (.invokevirtual 106, 3) := by decide +kernel
theorem dX2_setsOfStep_37 : decode cX2_setsOfStep 37 = .ok (.invokevirtual 125, 3) := by decide +kernel
theorem dX2_setsOfStep_40 : decode cX2_setsOfStep 40 = .ok (.goto 4, 3) := by decide +kernel
theorem dX2_setsOfStep_43 : decode cX2_setsOfStep 43 = .ok (.lconst 1, 1) := by decide +kernel
theorem dX2_setsOfStep_44 : decode cX2_setsOfStep 44 = .ok (.lreturn, 1) := by decide +kernel
theorem dX2_setsOf_0 : decode cX2_setsOf 0 = .ok (.iload_n 1, 1) := by decide +kernel
theorem dX2_setsOf_1 : decode cX2_setsOf 1 = .ok (.ifCond .lt 32, 3) := by decide +kernel
theorem dX2_setsOf_4 : decode cX2_setsOf 4 = .ok (.iload_n 1, 1) := by decide +kernel
theorem dX2_setsOf_5 : decode cX2_setsOf 5 = .ok (.bipush 41, 2) := by decide +kernel
theorem dX2_setsOf_7 : decode cX2_setsOf 7 = .ok (.if_icmp .ge 26, 3) := by decide +kernel
theorem dX2_setsOf_10 : decode cX2_setsOf 10 = .ok (.iload_n 2, 1) := by decide +kernel
theorem dX2_setsOf_11 : decode cX2_setsOf 11 = .ok (.ifCond .lt 22, 3) := by decide +kernel
theorem dX2_setsOf_14 : decode cX2_setsOf 14 = .ok (.iload_n 2, 1) := by decide +kernel
theorem dX2_setsOf_15 : decode cX2_setsOf 15 = .ok (.iload_n 1, 1) := by decide +kernel
theorem dX2_setsOf_16 : decode cX2_setsOf 16 = .ok (.if_icmp .gt 17, 3) := by decide +kernel
theorem dX2_setsOf_19 : decode cX2_setsOf 19 = .ok (.aload_n 0, 1) := by decide +kernel
theorem dX2_setsOf_20 : decode cX2_setsOf 20 = .ok (.getfield 9, 3) := by decide +kernel
theorem dX2_setsOf_23 : decode cX2_setsOf 23 = .ok (.iload_n 1, 1) := by decide +kernel
theorem dX2_setsOf_24 : decode cX2_setsOf 24 = .ok (.bipush 41, 2) := by decide +kernel
theorem dX2_setsOf_26 : decode cX2_setsOf 26 = .ok (.imul, 1) := by decide +kernel
theorem dX2_setsOf_27 : decode cX2_setsOf 27 = .ok (.iload_n 2, 1) := by decide +kernel
theorem dX2_setsOf_28 : decode cX2_setsOf 28 = .ok (.iadd, 1) := by decide +kernel
theorem dX2_setsOf_29 : decode cX2_setsOf 29 = .ok (.laload, 1) := by decide +kernel
theorem dX2_setsOf_30 : decode cX2_setsOf 30 = .ok (.goto 4, 3) := by decide +kernel
theorem dX2_setsOf_33 : decode cX2_setsOf 33 = .ok (.lconst 0, 1) := by decide +kernel
theorem dX2_setsOf_34 : decode cX2_setsOf 34 = .ok (.lreturn, 1) := by decide +kernel
set_option maxRecDepth 20000 in
theorem ggX2_lookAtCity_X0_saysYes : GoodIn wsX2_lookAtCity wsX0_saysYes := goodIn_r _ [10, 11, 12, 13, 9, 14, 50, 51, 52, 53, 54, 55, 56] (by decide +kernel) (by decide +kernel)
set_option maxRecDepth 20000 in
theorem gX2_lookAtCity_X0_saysYes : GoodIn wsX2_lookAtCity (wsV RX2 129 RX0 yX0_saysYes wsX0_saysYes) := goodIn_app (goodIn_of _ (by decide +kernel)) ggX2_lookAtCity_X0_saysYes
set_option maxRecDepth 20000 in
theorem ggX2_lookAtCity_X0_size : GoodIn wsX2_lookAtCity wsX0_size := goodIn_r _ [18, 19, 50, 51, 52, 53, 54, 55, 56] (by decide +kernel) (by decide +kernel)
set_option maxRecDepth 20000 in
theorem gX2_lookAtCity_X0_size : GoodIn wsX2_lookAtCity (wsV RX2 139 RX0 yX0_size wsX0_size) := goodIn_app (goodIn_of _ (by decide +kernel)) ggX2_lookAtCity_X0_size
set_option maxRecDepth 20000 in
theorem ggX2_lookAtCity_X0_isThere : GoodIn wsX2_lookAtCity wsX0_isThere := goodIn_r _ [23, 24, 25, 26, 27, 9, 28, 19, 50, 51, 52, 53, 54, 55, 56] (by decide +kernel) (by decide +kernel)
set_option maxRecDepth 20000 in
theorem gX2_lookAtCity_X0_isThere : GoodIn wsX2_lookAtCity (wsV RX2 142 RX0 yX0_isThere wsX0_isThere) := goodIn_app (goodIn_of _ (by decide +kernel)) ggX2_lookAtCity_X0_isThere
set_option maxRecDepth 20000 in
theorem ggX2_lookAtCity_X0_partyOf : GoodIn wsX2_lookAtCity wsX0_partyOf := goodIn_r _ [32, 33, 25, 26, 27, 9, 28, 19, 50, 51, 52, 53, 54, 55, 56] (by decide +kernel) (by decide +kernel)
set_option maxRecDepth 20000 in
theorem gX2_lookAtCity_X0_partyOf : GoodIn wsX2_lookAtCity (wsV RX2 146 RX0 yX0_partyOf wsX0_partyOf) := goodIn_app (goodIn_of _ (by decide +kernel)) ggX2_lookAtCity_X0_partyOf
theorem dX2_lookAtCity_0 : decode cX2_lookAtCity 0 = .ok (.iconst 0, 1) := by decide +kernel
theorem dX2_lookAtCity_1 : decode cX2_lookAtCity 1 = .ok (.istore_n 1, 1) := by decide +kernel
theorem dX2_lookAtCity_2 : decode cX2_lookAtCity 2 = .ok (.iload_n 1, 1) := by decide +kernel
theorem dX2_lookAtCity_3 : decode cX2_lookAtCity 3 = .ok (.bipush 16, 2) := by decide +kernel
theorem dX2_lookAtCity_5 : decode cX2_lookAtCity 5 = .ok (.if_icmp .ge 36, 3) := by decide +kernel
theorem dX2_lookAtCity_8 : decode cX2_lookAtCity 8 = .ok (.aload_n 0, 1) := by decide +kernel
theorem dX2_lookAtCity_9 : decode cX2_lookAtCity 9 = .ok (.getfield 35, 3) := by decide +kernel
theorem dX2_lookAtCity_12 : decode cX2_lookAtCity 12 = .ok (.iload_n 1, 1) := by decide +kernel
theorem dX2_lookAtCity_13 : decode cX2_lookAtCity 13 = .ok (.aload_n 0, 1) := by decide +kernel
theorem dX2_lookAtCity_14 : decode cX2_lookAtCity 14 = .ok (.getfield 54, 3) := by decide +kernel
theorem dX2_lookAtCity_17 : decode cX2_lookAtCity 17 = .ok (.iload_n 1, 1) := by decide +kernel
theorem dX2_lookAtCity_18 : decode cX2_lookAtCity 18 = .ok (.iconst 4, 1) := by decide +kernel
theorem dX2_lookAtCity_19 : decode cX2_lookAtCity 19 = .ok (.idiv, 1) := by decide +kernel
theorem dX2_lookAtCity_20 : decode cX2_lookAtCity 20 = .ok (.iload_n 1, 1) := by decide +kernel
theorem dX2_lookAtCity_21 : decode cX2_lookAtCity 21 = .ok (.iconst 4, 1) := by decide +kernel
theorem dX2_lookAtCity_22 : decode cX2_lookAtCity 22 = .ok (.irem, 1) := by decide +kernel
theorem dX2_lookAtCity_23 : decode cX2_lookAtCity 23 = .ok (.invokevirtual 129, 3) := by decide +kernel
theorem dX2_lookAtCity_26 : decode cX2_lookAtCity 26 = .ok (.ifCond .eq 7, 3) := by decide +kernel
theorem dX2_lookAtCity_29 : decode cX2_lookAtCity 29 = .ok (.iconst 1, 1) := by decide +kernel
theorem dX2_lookAtCity_30 : decode cX2_lookAtCity 30 = .ok (.goto 4, 3) := by decide +kernel
theorem dX2_lookAtCity_33 : decode cX2_lookAtCity 33 = .ok (.iconst 0, 1) := by decide +kernel
theorem dX2_lookAtCity_34 : decode cX2_lookAtCity 34 = .ok (.iastore, 1) := by decide +kernel
theorem dX2_lookAtCity_35 : decode cX2_lookAtCity 35 = .ok (.iinc 1 1, 3) := by decide +kernel
theorem dX2_lookAtCity_38 : decode cX2_lookAtCity 38 = .ok (.goto (-36), 3) := by decide +kernel
theorem dX2_lookAtCity_41 : decode cX2_lookAtCity 41 = .ok (.aload_n 0, 1) := by decide +kernel
theorem dX2_lookAtCity_42 : decode cX2_lookAtCity 42 = .ok (.iconst 0, 1) := by decide +kernel
theorem dX2_lookAtCity_43 : decode cX2_lookAtCity 43 = .ok (.putfield 135, 3) := by decide +kernel
theorem dX2_lookAtCity_46 : decode cX2_lookAtCity 46 = .ok (.iconst 0, 1) := by decide +kernel
theorem dX2_lookAtCity_47 : decode cX2_lookAtCity 47 = .ok (.istore_n 1, 1) := by decide +kernel
theorem dX2_lookAtCity_48 : decode cX2_lookAtCity 48 = .ok (.iload_n 1, 1) := by decide +kernel
theorem dX2_lookAtCity_49 : decode cX2_lookAtCity 49 = .ok (.aload_n 0, 1) := by decide +kernel
theorem dX2_lookAtCity_50 : decode cX2_lookAtCity 50 = .ok (.getfield 54, 3) := by decide +kernel
theorem dX2_lookAtCity_53 : decode cX2_lookAtCity 53 = .ok (.invokevirtual 139, 3) := by decide +kernel
theorem dX2_lookAtCity_56 : decode cX2_lookAtCity 56 = .ok (.if_icmp .ge 66, 3) := by decide +kernel
theorem dX2_lookAtCity_59 : decode cX2_lookAtCity 59 = .ok (.aload_n 0, 1) := by decide +kernel
theorem dX2_lookAtCity_60 : decode cX2_lookAtCity 60 = .ok (.getfield 135, 3) := by decide +kernel
theorem dX2_lookAtCity_63 : decode cX2_lookAtCity 63 = .ok (.bipush 40, 2) := by decide +kernel
theorem dX2_lookAtCity_65 : decode cX2_lookAtCity 65 = .ok (.if_icmp .ge 57, 3) := by decide +kernel
theorem dX2_lookAtCity_68 : decode cX2_lookAtCity 68 = .ok (.aload_n 0, 1) := by decide +kernel
theorem dX2_lookAtCity_69 : decode cX2_lookAtCity 69 = .ok (.getfield 54, 3) := by decide +kernel
theorem dX2_lookAtCity_72 : decode cX2_lookAtCity 72 = .ok (.iload_n 1, 1) := by decide +kernel
theorem dX2_lookAtCity_73 : decode cX2_lookAtCity 73 = .ok (.invokevirtual 142, 3) := by decide +kernel
theorem dX2_lookAtCity_76 : decode cX2_lookAtCity 76 = .ok (.ifCond .eq 40, 3) := by decide +kernel
theorem dX2_lookAtCity_79 : decode cX2_lookAtCity 79 = .ok (.aload_n 0, 1) := by decide +kernel
theorem dX2_lookAtCity_80 : decode cX2_lookAtCity 80 = .ok (.getfield 29, 3) := by decide +kernel
theorem dX2_lookAtCity_83 : decode cX2_lookAtCity 83 = .ok (.aload_n 0, 1) := by decide +kernel
theorem dX2_lookAtCity_84 : decode cX2_lookAtCity 84 = .ok (.getfield 135, 3) := by decide +kernel
theorem dX2_lookAtCity_87 : decode cX2_lookAtCity 87 = .ok (.iload_n 1, 1) := by decide +kernel
theorem dX2_lookAtCity_88 : decode cX2_lookAtCity 88 = .ok (.iastore, 1) := by decide +kernel
theorem dX2_lookAtCity_89 : decode cX2_lookAtCity 89 = .ok (.aload_n 0, 1) := by decide +kernel
theorem dX2_lookAtCity_90 : decode cX2_lookAtCity 90 = .ok (.getfield 32, 3) := by decide +kernel
theorem dX2_lookAtCity_93 : decode cX2_lookAtCity 93 = .ok (.aload_n 0, 1) := by decide +kernel
theorem dX2_lookAtCity_94 : decode cX2_lookAtCity 94 = .ok (.getfield 135, 3) := by decide +kernel
theorem dX2_lookAtCity_97 : decode cX2_lookAtCity 97 = .ok (.aload_n 0, 1) := by decide +kernel
theorem dX2_lookAtCity_98 : decode cX2_lookAtCity 98 = .ok (.getfield 54, 3) := by decide +kernel
theorem dX2_lookAtCity_101 : decode cX2_lookAtCity 101 = .ok (.iload_n 1, 1) := by decide +kernel
theorem dX2_lookAtCity_102 : decode cX2_lookAtCity 102 = .ok (.invokevirtual 146, 3) := by decide +kernel
theorem dX2_lookAtCity_105 : decode cX2_lookAtCity 105 = .ok (.iastore, 1) := by decide +kernel
theorem dX2_lookAtCity_106 : decode cX2_lookAtCity 106 = .ok (.aload_n 0, 1) := by decide +kernel
theorem dX2_lookAtCity_107 : decode cX2_lookAtCity 107 = .ok (.dup, 1) := by decide +kernel
theorem dX2_lookAtCity_108 : decode cX2_lookAtCity 108 = .ok (.getfield 135, 3) := by decide +kernel
theorem dX2_lookAtCity_111 : decode cX2_lookAtCity 111 = .ok (.iconst 1, 1) := by decide +kernel
theorem dX2_lookAtCity_112 : decode cX2_lookAtCity 112 = .ok (.iadd, 1) := by decide +kernel
theorem dX2_lookAtCity_113 : decode cX2_lookAtCity 113 = .ok (.putfield 135, 3) := by decide +kernel
theorem dX2_lookAtCity_116 : decode cX2_lookAtCity 116 = .ok (.iinc 1 1, 3) := by decide +kernel
theorem dX2_lookAtCity_119 : decode cX2_lookAtCity 119 = .ok (.goto (-71), 3) := by decide +kernel
theorem dX2_lookAtCity_122 : decode cX2_lookAtCity 122 = .ok (.return_, 1) := by decide +kernel
set_option maxRecDepth 20000 in
theorem ggX2_startFromBody_J7_fill_53178 : GoodIn wsX2_startFromBody wsJ7_fill_53178 := goodIn_r _ [8] (by decide +kernel) (by decide +kernel)
set_option maxRecDepth 20000 in
theorem gX2_startFromBody_J7_fill_53178 : GoodIn wsX2_startFromBody (va_wsS RX2 149 yJ7_fill_53178 wsJ7_fill_53178) := goodIn_app (goodIn_of _ (by decide +kernel)) ggX2_startFromBody_J7_fill_53178
set_option maxRecDepth 20000 in
theorem ggX2_startFromBody_X6_bodySize : GoodIn wsX2_startFromBody wsX6_bodySize := goodIn_r _ [13, 14, 15, 16, 17, 18, 12, 19, 20, 21, 22, 23, 24, 25, 26, 27, 28, 29, 30, 31, 32, 33, 34, 35, 36, 89, 90, 91, 92, 93, 94, 95, 96, 97, 98, 99, 100, 101, 102, 103, 104, 105] (by decide +kernel) (by decide +kernel)
set_option maxRecDepth 20000 in
theorem gX2_startFromBody_X6_bodySize : GoodIn wsX2_startFromBody (wsV RX2 99 RX6 yX6_bodySize wsX6_bodySize) := goodIn_app (goodIn_of _ (by decide +kernel)) ggX2_startFromBody_X6_bodySize
set_option maxRecDepth 20000 in
theorem ggX2_startFromBody_X6_member : GoodIn wsX2_startFromBody wsX6_member := goodIn_r _ [40, 21, 14, 41, 10, 11, 12, 13, 15, 16, 17, 18, 19, 20, 22, 23, 24, 25, 26, 27, 28, 29, 30, 31, 32, 33, 34, 35, 36, 89, 90, 91, 92, 93, 94, 95, 96, 97, 98, 99, 100, 101, 102, 103, 104, 105] (by decide +kernel) (by decide +kernel)
set_option maxRecDepth 20000 in
theorem gX2_startFromBody_X6_member : GoodIn wsX2_startFromBody (wsV RX2 152 RX6 yX6_member wsX6_member) := goodIn_app (goodIn_of _ (by decide +kernel)) ggX2_startFromBody_X6_member
set_option maxRecDepth 20000 in
theorem ggX2_startFromBody_X0_partyOf : GoodIn wsX2_startFromBody wsX0_partyOf := goodIn_r _ [45, 46, 33, 34, 35, 25, 36, 27, 99, 100, 101, 102, 103, 104, 105] (by decide +kernel) (by decide +kernel)
set_option maxRecDepth 20000 in
theorem gX2_startFromBody_X0_partyOf : GoodIn wsX2_startFromBody (wsV RX2 146 RX0 yX0_partyOf wsX0_partyOf) := goodIn_app (goodIn_of _ (by decide +kernel)) ggX2_startFromBody_X0_partyOf
set_option maxRecDepth 20000 in
theorem ggX2_startFromBody_X2_countParty : GoodIn wsX2_startFromBody wsX2_countParty := goodIn_r _ [51, 1, 52, 53, 25, 54, 73, 74, 75, 76, 77, 78, 79, 80, 81, 82, 83, 84, 85, 86, 87, 88] (by decide +kernel) (by decide +kernel)
set_option maxRecDepth 20000 in
theorem gX2_startFromBody_X2_countParty : GoodIn wsX2_startFromBody (wsV RX2 155 RX2 yX2_countParty wsX2_countParty) := goodIn_app (goodIn_of _ (by decide +kernel)) ggX2_startFromBody_X2_countParty
set_option maxRecDepth 20000 in
theorem ggX2_startFromBody_X7_clear : GoodIn wsX2_startFromBody wsX7_clear := goodIn_r _ [59, 60, 61, 62, 6, 7, 8, 106, 107, 108, 109] (by decide +kernel) (by decide +kernel)
set_option maxRecDepth 20000 in
theorem gX2_startFromBody_X7_clear : GoodIn wsX2_startFromBody (wsV RX2 159 RX7 yX7_clear wsX7_clear) := goodIn_app (goodIn_of _ (by decide +kernel)) ggX2_startFromBody_X7_clear
set_option maxRecDepth 20000 in
theorem ggX2_startFromBody_X2_keyOfGets : GoodIn wsX2_startFromBody wsX2_keyOfGets := goodIn_r _ [66, 1, 73, 74, 75, 76, 77, 78, 79, 80, 81, 82, 83, 84, 85, 86, 87, 88] (by decide +kernel) (by decide +kernel)
set_option maxRecDepth 20000 in
theorem gX2_startFromBody_X2_keyOfGets : GoodIn wsX2_startFromBody (wsV RX2 162 RX2 yX2_keyOfGets wsX2_keyOfGets) := goodIn_app (goodIn_of _ (by decide +kernel)) ggX2_startFromBody_X2_keyOfGets
set_option maxRecDepth 20000 in
theorem ggX2_startFromBody_X7_add : GoodIn wsX2_startFromBody wsX7_add := goodIn_r _ [70, 61, 60, 71, 72, 106, 107, 108, 109] (by decide +kernel) (by decide +kernel)
set_option maxRecDepth 20000 in
theorem gX2_startFromBody_X7_add : GoodIn wsX2_startFromBody (wsV RX2 165 RX7 yX7_add wsX7_add) := goodIn_app (goodIn_of _ (by decide +kernel)) ggX2_startFromBody_X7_add
theorem dX2_startFromBody_0 : decode cX2_startFromBody 0 = .ok (.aload_n 0, 1) := by decide +kernel
theorem dX2_startFromBody_1 : decode cX2_startFromBody 1 = .ok (.getfield 22, 3) := by decide +kernel
theorem dX2_startFromBody_4 : decode cX2_startFromBody 4 = .ok (.iconst 0, 1) := by decide +kernel
theorem dX2_startFromBody_5 : decode cX2_startFromBody 5 = .ok (.invokestatic 149, 3) := by decide +kernel
theorem dX2_startFromBody_8 : decode cX2_startFromBody 8 = .ok (.aload_n 0, 1) := by decide +kernel
theorem dX2_startFromBody_9 : decode cX2_startFromBody 9 = .ok (.getfield 58, 3) := by decide +kernel
theorem dX2_startFromBody_12 : decode cX2_startFromBody 12 = .ok (.invokevirtual 99, 3) := by decide +kernel
theorem dX2_startFromBody_15 : decode cX2_startFromBody 15 = .ok (.istore_n 1, 1) := by decide +kernel
theorem dX2_startFromBody_16 : decode cX2_startFromBody 16 = .ok (.iconst 0, 1) := by decide +kernel
theorem dX2_startFromBody_17 : decode cX2_startFromBody 17 = .ok (.istore_n 2, 1) := by decide +kernel
theorem dX2_startFromBody_18 : decode cX2_startFromBody 18 = .ok (.iload_n 2, 1) := by decide +kernel
theorem dX2_startFromBody_19 : decode cX2_startFromBody 19 = .ok (.iload_n 1, 1) := by decide +kernel
theorem dX2_startFromBody_20 : decode cX2_startFromBody 20 = .ok (.if_icmp .ge 28, 3) := by decide +kernel
theorem dX2_startFromBody_23 : decode cX2_startFromBody 23 = .ok (.aload_n 0, 1) := by decide +kernel
theorem dX2_startFromBody_24 : decode cX2_startFromBody 24 = .ok (.aload_n 0, 1) := by decide +kernel
theorem dX2_startFromBody_25 : decode cX2_startFromBody 25 = .ok (.getfield 54, 3) := by decide +kernel
theorem dX2_startFromBody_28 : decode cX2_startFromBody 28 = .ok (.aload_n 0, 1) := by decide +kernel
theorem dX2_startFromBody_29 : decode cX2_startFromBody 29 = .ok (.getfield 58, 3) := by decide +kernel
theorem dX2_startFromBody_32 : decode cX2_startFromBody 32 = .ok (.iload_n 2, 1) := by decide +kernel
theorem dX2_startFromBody_33 : decode cX2_startFromBody 33 = .ok (.invokevirtual 152, 3) := by decide +kernel
theorem dX2_startFromBody_36 : decode cX2_startFromBody 36 = .ok (.invokevirtual 146, 3) := by decide +kernel
theorem dX2_startFromBody_39 : decode cX2_startFromBody 39 = .ok (.invokevirtual 155, 3) := by decide +kernel
theorem dX2_startFromBody_42 : decode cX2_startFromBody 42 = .ok (.iinc 2 1, 3) := by decide +kernel
theorem dX2_startFromBody_45 : decode cX2_startFromBody 45 = .ok (.goto (-27), 3) := by decide +kernel
theorem dX2_startFromBody_48 : decode cX2_startFromBody 48 = .ok (.aload_n 0, 1) := by decide +kernel
theorem dX2_startFromBody_49 : decode cX2_startFromBody 49 = .ok (.getfield 47, 3) := by decide +kernel
theorem dX2_startFromBody_52 : decode cX2_startFromBody 52 = .ok (.invokevirtual 159, 3) := by decide +kernel
theorem dX2_startFromBody_55 : decode cX2_startFromBody 55 = .ok (.aload_n 0, 1) := by decide +kernel
theorem dX2_startFromBody_56 : decode cX2_startFromBody 56 = .ok (.getfield 47, 3) := by decide +kernel
theorem dX2_startFromBody_59 : decode cX2_startFromBody 59 = .ok (.aload_n 0, 1) := by decide +kernel
theorem dX2_startFromBody_60 : decode cX2_startFromBody 60 = .ok (.invokevirtual 162, 3) := by decide +kernel
theorem dX2_startFromBody_63 : decode cX2_startFromBody 63 = .ok (.lconst 1, 1) := by decide +kernel
theorem dX2_startFromBody_64 : decode cX2_startFromBody 64 = .ok (.invokevirtual 165, 3) := by decide +kernel
theorem dX2_startFromBody_67 : decode cX2_startFromBody 67 = .ok (.pop, 1) := by decide +kernel
theorem dX2_startFromBody_68 : decode cX2_startFromBody 68 = .ok (.return_, 1) := by decide +kernel
set_option maxRecDepth 20000 in
theorem ggX2_countParty_X0_isParty : GoodIn wsX2_countParty wsX0_isParty := goodIn_r _ [5] (by decide +kernel) (by decide +kernel)
set_option maxRecDepth 20000 in
theorem gX2_countParty_X0_isParty : GoodIn wsX2_countParty (va_wsS RX2 169 yX0_isParty wsX0_isParty) := goodIn_app (goodIn_of _ (by decide +kernel)) ggX2_countParty_X0_isParty
theorem dX2_countParty_0 : decode cX2_countParty 0 = .ok (.iload_n 1, 1) := by decide +kernel
theorem dX2_countParty_1 : decode cX2_countParty 1 = .ok (.invokestatic 169, 3) := by decide +kernel
theorem dX2_countParty_4 : decode cX2_countParty 4 = .ok (.ifCond .eq 13, 3) := by decide +kernel
theorem dX2_countParty_7 : decode cX2_countParty 7 = .ok (.aload_n 0, 1) := by decide +kernel
theorem dX2_countParty_8 : decode cX2_countParty 8 = .ok (.getfield 22, 3) := by decide +kernel
theorem dX2_countParty_11 : decode cX2_countParty 11 = .ok (.iload_n 1, 1) := by decide +kernel
theorem dX2_countParty_12 : decode cX2_countParty 12 = .ok (.dup2, 1) := by decide +kernel
theorem dX2_countParty_13 : decode cX2_countParty 13 = .ok (.iaload, 1) := by decide +kernel
theorem dX2_countParty_14 : decode cX2_countParty 14 = .ok (.iconst 1, 1) := by decide +kernel
theorem dX2_countParty_15 : decode cX2_countParty 15 = .ok (.iadd, 1) := by decide +kernel
theorem dX2_countParty_16 : decode cX2_countParty 16 = .ok (.iastore, 1) := by decide +kernel
theorem dX2_countParty_17 : decode cX2_countParty 17 = .ok (.return_, 1) := by decide +kernel
theorem dX2_keyOfGets_0 : decode cX2_keyOfGets 0 = .ok (.aload_n 0, 1) := by decide +kernel
theorem dX2_keyOfGets_1 : decode cX2_keyOfGets 1 = .ok (.getfield 22, 3) := by decide +kernel
theorem dX2_keyOfGets_4 : decode cX2_keyOfGets 4 = .ok (.iconst 0, 1) := by decide +kernel
theorem dX2_keyOfGets_5 : decode cX2_keyOfGets 5 = .ok (.iaload, 1) := by decide +kernel
theorem dX2_keyOfGets_6 : decode cX2_keyOfGets 6 = .ok (.bipush 41, 2) := by decide +kernel
theorem dX2_keyOfGets_8 : decode cX2_keyOfGets 8 = .ok (.imul, 1) := by decide +kernel
theorem dX2_keyOfGets_9 : decode cX2_keyOfGets 9 = .ok (.aload_n 0, 1) := by decide +kernel
theorem dX2_keyOfGets_10 : decode cX2_keyOfGets 10 = .ok (.getfield 22, 3) := by decide +kernel
theorem dX2_keyOfGets_13 : decode cX2_keyOfGets 13 = .ok (.iconst 1, 1) := by decide +kernel
theorem dX2_keyOfGets_14 : decode cX2_keyOfGets 14 = .ok (.iaload, 1) := by decide +kernel
theorem dX2_keyOfGets_15 : decode cX2_keyOfGets 15 = .ok (.iadd, 1) := by decide +kernel
theorem dX2_keyOfGets_16 : decode cX2_keyOfGets 16 = .ok (.bipush 41, 2) := by decide +kernel
theorem dX2_keyOfGets_18 : decode cX2_keyOfGets 18 = .ok (.imul, 1) := by decide +kernel
theorem dX2_keyOfGets_19 : decode cX2_keyOfGets 19 = .ok (.aload_n 0, 1) := by decide +kernel
theorem dX2_keyOfGets_20 : decode cX2_keyOfGets 20 = .ok (.getfield 22, 3) := by decide +kernel
theorem dX2_keyOfGets_23 : decode cX2_keyOfGets 23 = .ok (.iconst 2, 1) := by decide +kernel
theorem dX2_keyOfGets_24 : decode cX2_keyOfGets 24 = .ok (.iaload, 1) := by decide +kernel
theorem dX2_keyOfGets_25 : decode cX2_keyOfGets 25 = .ok (.iadd, 1) := by decide +kernel
theorem dX2_keyOfGets_26 : decode cX2_keyOfGets 26 = .ok (.ireturn, 1) := by decide +kernel
theorem dX2_spreadKey_0 : decode cX2_spreadKey 0 = .ok (.aload_n 0, 1) := by decide +kernel
theorem dX2_spreadKey_1 : decode cX2_spreadKey 1 = .ok (.getfield 18, 3) := by decide +kernel
theorem dX2_spreadKey_4 : decode cX2_spreadKey 4 = .ok (.iconst 0, 1) := by decide +kernel
theorem dX2_spreadKey_5 : decode cX2_spreadKey 5 = .ok (.iload_n 1, 1) := by decide +kernel
theorem dX2_spreadKey_6 : decode cX2_spreadKey 6 = .ok (.sipush 1681, 3) := by decide +kernel
theorem dX2_spreadKey_9 : decode cX2_spreadKey 9 = .ok (.idiv, 1) := by decide +kernel
theorem dX2_spreadKey_10 : decode cX2_spreadKey 10 = .ok (.iastore, 1) := by decide +kernel
theorem dX2_spreadKey_11 : decode cX2_spreadKey 11 = .ok (.aload_n 0, 1) := by decide +kernel
theorem dX2_spreadKey_12 : decode cX2_spreadKey 12 = .ok (.getfield 18, 3) := by decide +kernel
theorem dX2_spreadKey_15 : decode cX2_spreadKey 15 = .ok (.iconst 1, 1) := by decide +kernel
theorem dX2_spreadKey_16 : decode cX2_spreadKey 16 = .ok (.iload_n 1, 1) := by decide +kernel
theorem dX2_spreadKey_17 : decode cX2_spreadKey 17 = .ok (.bipush 41, 2) := by decide +kernel
theorem dX2_spreadKey_19 : decode cX2_spreadKey 19 = .ok (.idiv, 1) := by decide +kernel
theorem dX2_spreadKey_20 : decode cX2_spreadKey 20 = .ok (.bipush 41, 2) := by decide +kernel
theorem dX2_spreadKey_22 : decode cX2_spreadKey 22 = .ok (.irem, 1) := by decide +kernel
theorem dX2_spreadKey_23 : decode cX2_spreadKey 23 = .ok (.iastore, 1) := by decide +kernel
theorem dX2_spreadKey_24 : decode cX2_spreadKey 24 = .ok (.aload_n 0, 1) := by decide +kernel
theorem dX2_spreadKey_25 : decode cX2_spreadKey 25 = .ok (.getfield 18, 3) := by decide +kernel
theorem dX2_spreadKey_28 : decode cX2_spreadKey 28 = .ok (.iconst 2, 1) := by decide +kernel
theorem dX2_spreadKey_29 : decode cX2_spreadKey 29 = .ok (.iload_n 1, 1) := by decide +kernel
theorem dX2_spreadKey_30 : decode cX2_spreadKey 30 = .ok (.bipush 41, 2) := by decide +kernel
theorem dX2_spreadKey_32 : decode cX2_spreadKey 32 = .ok (.irem, 1) := by decide +kernel
theorem dX2_spreadKey_33 : decode cX2_spreadKey 33 = .ok (.iastore, 1) := by decide +kernel
theorem dX2_spreadKey_34 : decode cX2_spreadKey 34 = .ok (.aload_n 0, 1) := by decide +kernel
theorem dX2_spreadKey_35 : decode cX2_spreadKey 35 = .ok (.getfield 18, 3) := by decide +kernel
theorem dX2_spreadKey_38 : decode cX2_spreadKey 38 = .ok (.iconst 3, 1) := by decide +kernel
theorem dX2_spreadKey_39 : decode cX2_spreadKey 39 = .ok (.iload_n 2, 1) := by decide +kernel
theorem dX2_spreadKey_40 : decode cX2_spreadKey 40 = .ok (.aload_n 0, 1) := by decide +kernel
theorem dX2_spreadKey_41 : decode cX2_spreadKey 41 = .ok (.getfield 18, 3) := by decide +kernel
theorem dX2_spreadKey_44 : decode cX2_spreadKey 44 = .ok (.iconst 0, 1) := by decide +kernel
theorem dX2_spreadKey_45 : decode cX2_spreadKey 45 = .ok (.iaload, 1) := by decide +kernel
theorem dX2_spreadKey_46 : decode cX2_spreadKey 46 = .ok (.isub, 1) := by decide +kernel
theorem dX2_spreadKey_47 : decode cX2_spreadKey 47 = .ok (.aload_n 0, 1) := by decide +kernel
theorem dX2_spreadKey_48 : decode cX2_spreadKey 48 = .ok (.getfield 18, 3) := by decide +kernel
theorem dX2_spreadKey_51 : decode cX2_spreadKey 51 = .ok (.iconst 1, 1) := by decide +kernel
theorem dX2_spreadKey_52 : decode cX2_spreadKey 52 = .ok (.iaload, 1) := by decide +kernel
theorem dX2_spreadKey_53 : decode cX2_spreadKey 53 = .ok (.isub, 1) := by decide +kernel
theorem dX2_spreadKey_54 : decode cX2_spreadKey 54 = .ok (.aload_n 0, 1) := by decide +kernel
theorem dX2_spreadKey_55 : decode cX2_spreadKey 55 = .ok (.getfield 18, 3) := by decide +kernel
theorem dX2_spreadKey_58 : decode cX2_spreadKey 58 = .ok (.iconst 2, 1) := by decide +kernel
theorem dX2_spreadKey_59 : decode cX2_spreadKey 59 = .ok (.iaload, 1) := by decide +kernel
theorem dX2_spreadKey_60 : decode cX2_spreadKey 60 = .ok (.isub, 1) := by decide +kernel
theorem dX2_spreadKey_61 : decode cX2_spreadKey 61 = .ok (.iastore, 1) := by decide +kernel
theorem dX2_spreadKey_62 : decode cX2_spreadKey 62 = .ok (.return_, 1) := by decide +kernel
set_option maxRecDepth 20000 in
theorem ggX2_passStep_X7_clear : GoodIn wsX2_passStep wsX7_clear := goodIn_r _ [7, 8, 9, 10, 11, 12, 13, 128, 129, 130, 131] (by decide +kernel) (by decide +kernel)
set_option maxRecDepth 20000 in
theorem gX2_passStep_X7_clear : GoodIn wsX2_passStep (wsV RX2 159 RX7 yX7_clear wsX7_clear) := goodIn_app (goodIn_of _ (by decide +kernel)) ggX2_passStep_X7_clear
set_option maxRecDepth 20000 in
theorem ggX2_passStep_X7_length : GoodIn wsX2_passStep wsX7_length := goodIn_r _ [17, 8, 128, 129, 130, 131] (by decide +kernel) (by decide +kernel)
set_option maxRecDepth 20000 in
theorem gX2_passStep_X7_length : GoodIn wsX2_passStep (wsV RX2 172 RX7 yX7_length wsX7_length) := goodIn_app (goodIn_of _ (by decide +kernel)) ggX2_passStep_X7_length
set_option maxRecDepth 20000 in
theorem ggX2_passStep_X7_keyAt : GoodIn wsX2_passStep wsX7_keyAt := goodIn_r _ [21, 8, 22, 128, 129, 130, 131] (by decide +kernel) (by decide +kernel)
set_option maxRecDepth 20000 in
theorem gX2_passStep_X7_keyAt : GoodIn wsX2_passStep (wsV RX2 173 RX7 yX7_keyAt wsX7_keyAt) := goodIn_app (goodIn_of _ (by decide +kernel)) ggX2_passStep_X7_keyAt
set_option maxRecDepth 20000 in
theorem ggX2_passStep_X2_spreadKey : GoodIn wsX2_passStep wsX2_spreadKey := goodIn_r _ [27, 28, 112, 113, 114, 115, 116, 117, 118, 119, 120, 121, 122, 123, 124, 125, 126, 127] (by decide +kernel) (by decide +kernel)
set_option maxRecDepth 20000 in
theorem gX2_passStep_X2_spreadKey : GoodIn wsX2_passStep (wsV RX2 176 RX2 yX2_spreadKey wsX2_spreadKey) := goodIn_app (goodIn_of _ (by decide +kernel)) ggX2_passStep_X2_spreadKey
set_option maxRecDepth 20000 in
theorem ggX2_passStep_X7_waysAt : GoodIn wsX2_passStep wsX7_waysAt := goodIn_r _ [32, 8, 33, 128, 129, 130, 131] (by decide +kernel) (by decide +kernel)
set_option maxRecDepth 20000 in
theorem gX2_passStep_X7_waysAt : GoodIn wsX2_passStep (wsV RX2 180 RX7 yX7_waysAt wsX7_waysAt) := goodIn_app (goodIn_of _ (by decide +kernel)) ggX2_passStep_X7_waysAt
set_option maxRecDepth 20000 in
theorem ggX2_passStep_X2_passBody : GoodIn wsX2_passStep wsX2_passBody := goodIn_r _ [37, 38, 1, 39, 40, 41, 42, 43, 44, 45, 46, 47, 48, 49, 50, 51, 52, 53, 54, 55, 56, 57, 26, 58, 28, 59, 60, 61, 62, 63, 64, 65, 66, 67, 68, 69, 70, 71, 72, 73, 74, 75, 76, 77, 78, 79, 80, 81, 82, 6, 83, 9, 8, 22, 33, 84, 85, 86, 87, 88, 89, 90, 91, 92, 93, 94, 95, 96, 97, 98, 99, 100, 101, 102, 103, 104, 105, 106, 107, 11, 12, 13, 108, 109, 110, 111, 112, 113, 114, 115, 116, 117, 118, 119, 120, 121, 122, 123, 124, 125, 126, 127, 132, 133, 134, 135, 136, 128, 129, 130, 131] (by decide +kernel) (by decide +kernel)
set_option maxRecDepth 20000 in
theorem gX2_passStep_X2_passBody : GoodIn wsX2_passStep (wsV RX2 184 RX2 yX2_passBody wsX2_passBody) := goodIn_app (goodIn_of _ (by decide +kernel)) ggX2_passStep_X2_passBody
theorem dX2_passStep_0 : decode cX2_passStep 0 = .ok (.aload_n 0, 1) := by decide +kernel
theorem dX2_passStep_1 : decode cX2_passStep 1 = .ok (.getfield 51, 3) := by decide +kernel
theorem dX2_passStep_4 : decode cX2_passStep 4 = .ok (.invokevirtual 159, 3) := by decide +kernel
theorem dX2_passStep_7 : decode cX2_passStep 7 = .ok (.iconst 0, 1) := by decide +kernel
theorem dX2_passStep_8 : decode cX2_passStep 8 = .ok (.istore 4, 2) := by decide +kernel
theorem dX2_passStep_10 : decode cX2_passStep 10 = .ok (.iload 4, 2) := by decide +kernel
theorem dX2_passStep_12 : decode cX2_passStep 12 = .ok (.aload_n 0, 1) := by decide +kernel
theorem dX2_passStep_13 : decode cX2_passStep 13 = .ok (.getfield 47, 3) := by decide +kernel
theorem dX2_passStep_16 : decode cX2_passStep 16 = .ok (.invokevirtual 172, 3) := by decide +kernel
theorem dX2_passStep_19 : decode cX2_passStep 19 = .ok (.if_icmp .ge 44, 3) := by decide +kernel
theorem dX2_passStep_22 : decode cX2_passStep 22 = .ok (.aload_n 0, 1) := by decide +kernel
theorem dX2_passStep_23 : decode cX2_passStep 23 = .ok (.aload_n 0, 1) := by decide +kernel
theorem dX2_passStep_24 : decode cX2_passStep 24 = .ok (.getfield 47, 3) := by decide +kernel
theorem dX2_passStep_27 : decode cX2_passStep 27 = .ok (.iload 4, 2) := by decide +kernel
theorem dX2_passStep_29 : decode cX2_passStep 29 = .ok (.invokevirtual 173, 3) := by decide +kernel
theorem dX2_passStep_32 : decode cX2_passStep 32 = .ok (.iload_n 3, 1) := by decide +kernel
theorem dX2_passStep_33 : decode cX2_passStep 33 = .ok (.invokevirtual 176, 3) := by decide +kernel
theorem dX2_passStep_36 : decode cX2_passStep 36 = .ok (.aload_n 0, 1) := by decide +kernel
theorem dX2_passStep_37 : decode cX2_passStep 37 = .ok (.aload_n 1, 1) := by decide +kernel
theorem dX2_passStep_38 : decode cX2_passStep 38 = .ok (.iload_n 2, 1) := by decide +kernel
theorem dX2_passStep_39 : decode cX2_passStep 39 = .ok (.iload_n 3, 1) := by decide +kernel
theorem dX2_passStep_40 : decode cX2_passStep 40 = .ok (.aload_n 0, 1) := by decide +kernel
theorem dX2_passStep_41 : decode cX2_passStep 41 = .ok (.getfield 47, 3) := by decide +kernel
theorem dX2_passStep_44 : decode cX2_passStep 44 = .ok (.iload 4, 2) := by decide +kernel
theorem dX2_passStep_46 : decode cX2_passStep 46 = .ok (.invokevirtual 180, 3) := by decide +kernel
theorem dX2_passStep_49 : decode cX2_passStep 49 = .ok (.invokevirtual 184, 3) := by decide +kernel
theorem dX2_passStep_52 : decode cX2_passStep 52 = .ok (.ifCond .ne 5, 3) := by decide +kernel
theorem dX2_passStep_55 : decode cX2_passStep 55 = .ok (.iconst 0, 1) := by decide +kernel
theorem dX2_passStep_56 : decode cX2_passStep 56 = .ok (.ireturn, 1) := by decide +kernel
theorem dX2_passStep_57 : decode cX2_passStep 57 = .ok (.iinc 4 1, 3) := by decide +kernel
theorem dX2_passStep_60 : decode cX2_passStep 60 = .ok (.goto (-50), 3) := by decide +kernel
theorem dX2_passStep_63 : decode cX2_passStep 63 = .ok (.aload_n 0, 1) := by decide +kernel
theorem dX2_passStep_64 : decode cX2_passStep 64 = .ok (.getfield 47, 3) := by decide +kernel
theorem dX2_passStep_67 : decode cX2_passStep 67 = .ok (.astore 4, 2) := by decide +kernel
theorem dX2_passStep_69 : decode cX2_passStep 69 = .ok (.aload_n 0, 1) := by decide +kernel
theorem dX2_passStep_70 : decode cX2_passStep 70 = .ok (.aload_n 0, 1) := by decide +kernel
theorem dX2_passStep_71 : decode cX2_passStep 71 = .ok (.getfield 51, 3) := by decide +kernel
theorem dX2_passStep_74 : decode cX2_passStep 74 = .ok (.putfield 47, 3) := by decide +kernel
theorem dX2_passStep_77 : decode cX2_passStep 77 = .ok (.aload_n 0, 1) := by decide +kernel
theorem dX2_passStep_78 : decode cX2_passStep 78 = .ok (.aload 4, 2) := by decide +kernel
theorem dX2_passStep_80 : decode cX2_passStep 80 = .ok (.putfield 51, 3) := by decide +kernel
theorem dX2_passStep_83 : decode cX2_passStep 83 = .ok (.iconst 1, 1) := by decide +kernel
theorem dX2_passStep_84 : decode cX2_passStep 84 = .ok (.ireturn, 1) := by decide +kernel
set_option maxRecDepth 20000 in
theorem ggX2_passBody_X3_sizeOf : GoodIn wsX2_passBody wsX3_sizeOf := goodIn_r _ [7, 8, 9, 10, 11, 6, 12, 13, 102, 103, 104, 105, 106] (by decide +kernel) (by decide +kernel)
set_option maxRecDepth 20000 in
theorem gX2_passBody_X3_sizeOf : GoodIn wsX2_passBody (wsV RX2 106 RX3 yX3_sizeOf wsX3_sizeOf) := goodIn_app (goodIn_of _ (by decide +kernel)) ggX2_passBody_X3_sizeOf
set_option maxRecDepth 20000 in
theorem ggX2_passBody_X3_kindOf : GoodIn wsX2_passBody wsX3_kindOf := goodIn_r _ [17, 18, 9, 10, 11, 6, 12, 13, 102, 103, 104, 105, 106] (by decide +kernel) (by decide +kernel)
set_option maxRecDepth 20000 in
theorem gX2_passBody_X3_kindOf : GoodIn wsX2_passBody (wsV RX2 122 RX3 yX3_kindOf wsX3_kindOf) := goodIn_app (goodIn_of _ (by decide +kernel)) ggX2_passBody_X3_kindOf
set_option maxRecDepth 20000 in
theorem ggX2_passBody_X2_drawSets : GoodIn wsX2_passBody wsX2_drawSets := goodIn_r _ [23, 24, 25, 26, 27, 28, 29, 30, 31, 32, 22, 33, 34, 35, 36, 37, 38, 39, 40, 41, 2, 42, 43, 44, 45, 46, 47, 48, 49, 50, 51, 52, 53, 54, 86, 87, 88, 89, 90, 91, 92, 93, 94, 95, 96, 97, 98, 99, 100, 101, 107, 108, 109, 110] (by decide +kernel) (by decide +kernel)
set_option maxRecDepth 20000 in
theorem gX2_passBody_X2_drawSets : GoodIn wsX2_passBody (wsV RX2 188 RX2 yX2_drawSets wsX2_drawSets) := goodIn_app (goodIn_of _ (by decide +kernel)) ggX2_passBody_X2_drawSets
set_option maxRecDepth 20000 in
theorem ggX2_passBody_X2_missStep : GoodIn wsX2_passBody wsX2_missStep := goodIn_r _ [58, 1, 59, 86, 87, 88, 89, 90, 91, 92, 93, 94, 95, 96, 97, 98, 99, 100, 101] (by decide +kernel) (by decide +kernel)
set_option maxRecDepth 20000 in
theorem gX2_passBody_X2_missStep : GoodIn wsX2_passBody (wsV RX2 191 RX2 yX2_missStep wsX2_missStep) := goodIn_app (goodIn_of _ (by decide +kernel)) ggX2_passBody_X2_missStep
set_option maxRecDepth 20000 in
theorem ggX2_passBody_X3_votesOf : GoodIn wsX2_passBody wsX3_votesOf := goodIn_r _ [63, 64, 9, 10, 11, 6, 12, 13, 102, 103, 104, 105, 106] (by decide +kernel) (by decide +kernel)
set_option maxRecDepth 20000 in
theorem gX2_passBody_X3_votesOf : GoodIn wsX2_passBody (wsV RX2 195 RX3 yX3_votesOf wsX3_votesOf) := goodIn_app (goodIn_of _ (by decide +kernel)) ggX2_passBody_X3_votesOf
set_option maxRecDepth 20000 in
theorem ggX2_passBody_X2_findEnough : GoodIn wsX2_passBody wsX2_findEnough := goodIn_r _ [68, 69, 24, 70, 86, 87, 88, 89, 90, 91, 92, 93, 94, 95, 96, 97, 98, 99, 100, 101] (by decide +kernel) (by decide +kernel)
set_option maxRecDepth 20000 in
theorem gX2_passBody_X2_findEnough : GoodIn wsX2_passBody (wsV RX2 198 RX2 yX2_findEnough wsX2_findEnough) := goodIn_app (goodIn_of _ (by decide +kernel)) ggX2_passBody_X2_findEnough
set_option maxRecDepth 20000 in
theorem ggX2_passBody_X2_chooseFirst : GoodIn wsX2_passBody wsX2_chooseFirst := goodIn_r _ [74, 29, 75, 76, 70, 77, 78, 79, 80, 81, 82, 83, 84, 85, 86, 87, 88, 89, 90, 91, 92, 93, 94, 95, 96, 97, 98, 99, 100, 101] (by decide +kernel) (by decide +kernel)
set_option maxRecDepth 20000 in
theorem gX2_passBody_X2_chooseFirst : GoodIn wsX2_passBody (wsV RX2 201 RX2 yX2_chooseFirst wsX2_chooseFirst) := goodIn_app (goodIn_of _ (by decide +kernel)) ggX2_passBody_X2_chooseFirst
set_option maxRecDepth 20000 in
theorem ggX2_passBody_X2_keyOfGets : GoodIn wsX2_passBody wsX2_keyOfGets := goodIn_r _ [45, 29, 86, 87, 88, 89, 90, 91, 92, 93, 94, 95, 96, 97, 98, 99, 100, 101] (by decide +kernel) (by decide +kernel)
set_option maxRecDepth 20000 in
theorem gX2_passBody_X2_keyOfGets : GoodIn wsX2_passBody (wsV RX2 162 RX2 yX2_keyOfGets wsX2_keyOfGets) := goodIn_app (goodIn_of _ (by decide +kernel)) ggX2_passBody_X2_keyOfGets
set_option maxRecDepth 20000 in
theorem ggX2_passBody_X7_add : GoodIn wsX2_passBody wsX7_add := goodIn_r _ [50, 51, 52, 53, 54, 107, 108, 109, 110] (by decide +kernel) (by decide +kernel)
set_option maxRecDepth 20000 in
theorem gX2_passBody_X7_add : GoodIn wsX2_passBody (wsV RX2 165 RX7 yX7_add wsX7_add) := goodIn_app (goodIn_of _ (by decide +kernel)) ggX2_passBody_X7_add
theorem dX2_passBody_0 : decode cX2_passBody 0 = .ok (.aload_n 1, 1) := by decide +kernel
theorem dX2_passBody_1 : decode cX2_passBody 1 = .ok (.iload_n 2, 1) := by decide +kernel
theorem dX2_passBody_2 : decode cX2_passBody 2 = .ok (.invokevirtual 106, 3) := by decide +kernel
theorem dX2_passBody_5 : decode cX2_passBody 5 = .ok (.istore 6, 2) := by decide +kernel
theorem dX2_passBody_7 : decode cX2_passBody 7 = .ok (.aload_n 1, 1) := by decide +kernel
theorem dX2_passBody_8 : decode cX2_passBody 8 = .ok (.iload_n 2, 1) := by decide +kernel
theorem dX2_passBody_9 : decode cX2_passBody 9 = .ok (.invokevirtual 122, 3) := by decide +kernel
theorem dX2_passBody_12 : decode cX2_passBody 12 = .ok (.iconst 1, 1) := by decide +kernel
theorem dX2_passBody_13 : decode cX2_passBody 13 = .ok (.if_icmp .ne 27, 3) := by decide +kernel
theorem dX2_passBody_16 : decode cX2_passBody 16 = .ok (.iload 6, 2) := by decide +kernel
theorem dX2_passBody_18 : decode cX2_passBody 18 = .ok (.iload_n 3, 1) := by decide +kernel
theorem dX2_passBody_19 : decode cX2_passBody 19 = .ok (.if_icmp .gt 12, 3) := by decide +kernel
theorem dX2_passBody_22 : decode cX2_passBody 22 = .ok (.aload_n 0, 1) := by decide +kernel
theorem dX2_passBody_23 : decode cX2_passBody 23 = .ok (.iload 6, 2) := by decide +kernel
theorem dX2_passBody_25 : decode cX2_passBody 25 = .ok (.lload 4, 2) := by decide +kernel
theorem dX2_passBody_27 : decode cX2_passBody 27 = .ok (.invokevirtual 188, 3) := by decide +kernel
theorem dX2_passBody_30 : decode cX2_passBody 30 = .ok (.ireturn, 1) := by decide +kernel
theorem dX2_passBody_31 : decode cX2_passBody 31 = .ok (.aload_n 0, 1) := by decide +kernel
theorem dX2_passBody_32 : decode cX2_passBody 32 = .ok (.iload_n 2, 1) := by decide +kernel
theorem dX2_passBody_33 : decode cX2_passBody 33 = .ok (.lload 4, 2) := by decide +kernel
theorem dX2_passBody_35 : decode cX2_passBody 35 = .ok (.invokevirtual 191, 3) := by decide +kernel
theorem dX2_passBody_38 : decode cX2_passBody 38 = .ok (.iconst 1, 1) := by decide +kernel
theorem dX2_passBody_39 : decode cX2_passBody 39 = .ok (.ireturn, 1) := by decide +kernel
theorem dX2_passBody_40 : decode cX2_passBody 40 = .ok (.aload_n 0, 1) := by decide +kernel
theorem dX2_passBody_41 : decode cX2_passBody 41 = .ok (.aload_n 1, 1) := by decide +kernel
theorem dX2_passBody_42 : decode cX2_passBody 42 = .ok (.iload_n 2, 1) := by decide +kernel
theorem dX2_passBody_43 : decode cX2_passBody 43 = .ok (.invokevirtual 195, 3) := by decide +kernel
theorem dX2_passBody_46 : decode cX2_passBody 46 = .ok (.invokevirtual 198, 3) := by decide +kernel
theorem dX2_passBody_49 : decode cX2_passBody 49 = .ok (.aload_n 0, 1) := by decide +kernel
theorem dX2_passBody_50 : decode cX2_passBody 50 = .ok (.iload 6, 2) := by decide +kernel
theorem dX2_passBody_52 : decode cX2_passBody 52 = .ok (.invokevirtual 201, 3) := by decide +kernel
theorem dX2_passBody_55 : decode cX2_passBody 55 = .ok (.istore 7, 2) := by decide +kernel
theorem dX2_passBody_57 : decode cX2_passBody 57 = .ok (.iload 7, 2) := by decide +kernel
theorem dX2_passBody_59 : decode cX2_passBody 59 = .ok (.ifCond .lt 10, 3) := by decide +kernel
theorem dX2_passBody_62 : decode cX2_passBody 62 = .ok (.iload 7, 2) := by decide +kernel
theorem dX2_passBody_64 : decode cX2_passBody 64 = .ok (.bipush 40, 2) := by decide +kernel
theorem dX2_passBody_66 : decode cX2_passBody 66 = .ok (.if_icmp .lt 12, 3) := by decide +kernel
theorem dX2_passBody_69 : decode cX2_passBody 69 = .ok (.aload_n 0, 1) := by decide +kernel
theorem dX2_passBody_70 : decode cX2_passBody 70 = .ok (.iload_n 2, 1) := by decide +kernel
theorem dX2_passBody_71 : decode cX2_passBody 71 = .ok (.lload 4, 2) := by decide +kernel
theorem dX2_passBody_73 : decode cX2_passBody 73 = .ok (.invokevirtual 191, 3) := by decide +kernel
theorem dX2_passBody_76 : decode cX2_passBody 76 = .ok (.iconst 1, 1) := by decide +kernel
theorem dX2_passBody_77 : decode cX2_passBody 77 = .ok (.ireturn, 1) := by decide +kernel
theorem dX2_passBody_78 : decode cX2_passBody 78 = .ok (.aload_n 1, 1) := by decide +kernel
theorem dX2_passBody_79 : decode cX2_passBody 79 = .ok (.iload_n 2, 1) := by decide +kernel
theorem dX2_passBody_80 : decode cX2_passBody 80 = .ok (.invokevirtual 122, 3) := by decide +kernel
theorem dX2_passBody_83 : decode cX2_passBody 83 = .ok (.iconst 3, 1) := by decide +kernel
theorem dX2_passBody_84 : decode cX2_passBody 84 = .ok (.if_icmp .ne 17, 3) := by decide +kernel
theorem dX2_passBody_87 : decode cX2_passBody 87 = .ok (.aload_n 0, 1) := by decide +kernel
theorem dX2_passBody_88 : decode cX2_passBody 88 = .ok (.getfield 41, 3) := by decide +kernel
theorem dX2_passBody_91 : decode cX2_passBody 91 = .ok (.iload 7, 2) := by decide +kernel
theorem dX2_passBody_93 : decode cX2_passBody 93 = .ok (.dup2, 1) := by decide +kernel
theorem dX2_passBody_94 : decode cX2_passBody 94 = .ok (.laload, 1) := by decide +kernel
theorem dX2_passBody_95 : decode cX2_passBody 95 = .ok (.lload 4, 2) := by decide +kernel
theorem dX2_passBody_97 : decode cX2_passBody 97 = .ok (.ladd, 1) := by decide +kernel
theorem dX2_passBody_98 : decode cX2_passBody 98 = .ok (.lastore, 1) := by decide +kernel
theorem dX2_passBody_99 : decode cX2_passBody 99 = .ok (.iconst 1, 1) := by decide +kernel
theorem dX2_passBody_100 : decode cX2_passBody 100 = .ok (.ireturn, 1) := by decide +kernel
theorem dX2_passBody_101 : decode cX2_passBody 101 = .ok (.aload_n 0, 1) := by decide +kernel
theorem dX2_passBody_102 : decode cX2_passBody 102 = .ok (.getfield 51, 3) := by decide +kernel
theorem dX2_passBody_105 : decode cX2_passBody 105 = .ok (.aload_n 0, 1) := by decide +kernel
theorem dX2_passBody_106 : decode cX2_passBody 106 = .ok (.invokevirtual 162, 3) := by decide +kernel
theorem dX2_passBody_109 : decode cX2_passBody 109 = .ok (.lload 4, 2) := by decide +kernel
theorem dX2_passBody_111 : decode cX2_passBody 111 = .ok (.invokevirtual 165, 3) := by decide +kernel
theorem dX2_passBody_114 : decode cX2_passBody 114 = .ok (.ireturn, 1) := by decide +kernel
theorem dX2_missStep_0 : decode cX2_missStep 0 = .ok (.iload_n 1, 1) := by decide +kernel
theorem dX2_missStep_1 : decode cX2_missStep 1 = .ok (.ifCond .lt 27, 3) := by decide +kernel
theorem dX2_missStep_4 : decode cX2_missStep 4 = .ok (.iload_n 1, 1) := by decide +kernel
theorem dX2_missStep_5 : decode cX2_missStep 5 = .ok (.bipush 12, 2) := by decide +kernel
theorem dX2_missStep_7 : decode cX2_missStep 7 = .ok (.if_icmp .ge 21, 3) := by decide +kernel
theorem dX2_missStep_10 : decode cX2_missStep 10 = .ok (.aload_n 0, 1) := by decide +kernel
theorem dX2_missStep_11 : decode cX2_missStep 11 = .ok (.getfield 41, 3) := by decide +kernel
theorem dX2_missStep_14 : decode cX2_missStep 14 = .ok (.bipush 40, 2) := by decide +kernel
theorem dX2_missStep_16 : decode cX2_missStep 16 = .ok (.dup2, 1) := by decide +kernel
theorem dX2_missStep_17 : decode cX2_missStep 17 = .ok (.laload, 1) := by decide +kernel
theorem dX2_missStep_18 : decode cX2_missStep 18 = .ok (.lload_n 2, 1) := by decide +kernel
theorem dX2_missStep_19 : decode cX2_missStep 19 = .ok (.aload_n 0, 1) := by decide +kernel
theorem dX2_missStep_20 : decode cX2_missStep 20 = .ok (.getfield 15, 3) := by decide +kernel
theorem dX2_missStep_23 : decode cX2_missStep 23 = .ok (.iload_n 1, 1) := by decide +kernel
theorem dX2_missStep_24 : decode cX2_missStep 24 = .ok (.laload, 1) := by decide +kernel
theorem dX2_missStep_25 : decode cX2_missStep 25 = .ok (.lmul, 1) := by decide +kernel
theorem dX2_missStep_26 : decode cX2_missStep 26 = .ok (.ladd, 1) := by decide +kernel
theorem dX2_missStep_27 : decode cX2_missStep 27 = .ok (.lastore, 1) := by decide +kernel
theorem dX2_missStep_28 : decode cX2_missStep 28 = .ok (.return_, 1) := by decide +kernel
set_option maxRecDepth 20000 in
theorem ggX2_drawSets_X2_setsOf : GoodIn wsX2_drawSets wsX2_setsOf := goodIn_r _ [11, 12, 34, 35, 36, 37, 38, 39, 40, 41, 42, 43, 44, 45, 46, 47, 48, 49] (by decide +kernel) (by decide +kernel)
set_option maxRecDepth 20000 in
theorem gX2_drawSets_X2_setsOf : GoodIn wsX2_drawSets (wsV RX2 125 RX2 yX2_setsOf wsX2_setsOf) := goodIn_app (goodIn_of _ (by decide +kernel)) ggX2_drawSets_X2_setsOf
set_option maxRecDepth 20000 in
theorem ggX2_drawSets_X2_drawLastTwo : GoodIn wsX2_drawSets wsX2_drawLastTwo := goodIn_r _ [16, 1, 17, 18, 4, 19, 2, 3, 5, 6, 20, 21, 22, 23, 10, 24, 7, 8, 9, 11, 12, 25, 26, 27, 28, 29, 30, 31, 32, 33, 34, 35, 36, 37, 38, 39, 40, 41, 42, 43, 44, 45, 46, 47, 48, 49, 50, 51, 52, 53] (by decide +kernel) (by decide +kernel)
set_option maxRecDepth 20000 in
theorem gX2_drawSets_X2_drawLastTwo : GoodIn wsX2_drawSets (wsV RX2 204 RX2 yX2_drawLastTwo wsX2_drawLastTwo) := goodIn_app (goodIn_of _ (by decide +kernel)) ggX2_drawSets_X2_drawLastTwo
theorem dX2_drawSets_0 : decode cX2_drawSets 0 = .ok (.iconst 0, 1) := by decide +kernel
theorem dX2_drawSets_1 : decode cX2_drawSets 1 = .ok (.istore 4, 2) := by decide +kernel
theorem dX2_drawSets_3 : decode cX2_drawSets 3 = .ok (.iload 4, 2) := by decide +kernel
theorem dX2_drawSets_5 : decode cX2_drawSets 5 = .ok (.aload_n 0, 1) := by decide +kernel
theorem dX2_drawSets_6 : decode cX2_drawSets 6 = .ok (.getfield 18, 3) := by decide +kernel
theorem dX2_drawSets_9 : decode cX2_drawSets 9 = .ok (.iconst 0, 1) := by decide +kernel
theorem dX2_drawSets_10 : decode cX2_drawSets 10 = .ok (.iaload, 1) := by decide +kernel
theorem dX2_drawSets_11 : decode cX2_drawSets 11 = .ok (.iload_n 1, 1) := by decide +kernel
theorem dX2_drawSets_12 : decode cX2_drawSets 12 = .ok (.invokestatic 116, 3) := by decide +kernel
theorem dX2_drawSets_15 : decode cX2_drawSets 15 = .ok (.if_icmp .gt 103, 3) := by decide +kernel
theorem dX2_drawSets_18 : decode cX2_drawSets 18 = .ok (.lload_n 2, 1) := by decide +kernel
theorem dX2_drawSets_19 : decode cX2_drawSets 19 = .ok (.aload_n 0, 1) := by decide +kernel
theorem dX2_drawSets_20 : decode cX2_drawSets 20 = .ok (.aload_n 0, 1) := by decide +kernel
theorem dX2_drawSets_21 : decode cX2_drawSets 21 = .ok (.getfield 18, 3) := by decide +kernel
theorem dX2_drawSets_24 : decode cX2_drawSets 24 = .ok (.iconst 0, 1) := by decide +kernel
theorem dX2_drawSets_25 : decode cX2_drawSets 25 = .ok (.iaload, 1) := by decide +kernel
theorem dX2_drawSets_26 : decode cX2_drawSets 26 = .ok (.iload 4, 2) := by decide +kernel
theorem dX2_drawSets_28 : decode cX2_drawSets 28 = .ok (.invokevirtual 125, 3) := by decide +kernel
theorem dX2_drawSets_31 : decode cX2_drawSets 31 = .ok (.lmul, 1) := by decide +kernel
theorem dX2_drawSets_32 : decode cX2_drawSets 32 = .ok (.lstore 5, 2) := by decide +kernel
theorem dX2_drawSets_34 : decode cX2_drawSets 34 = .ok (.iconst 0, 1) := by decide +kernel
theorem dX2_drawSets_35 : decode cX2_drawSets 35 = .ok (.istore 7, 2) := by decide +kernel
theorem dX2_drawSets_37 : decode cX2_drawSets 37 = .ok (.iload 7, 2) := by decide +kernel
theorem dX2_drawSets_39 : decode cX2_drawSets 39 = .ok (.aload_n 0, 1) := by decide +kernel
theorem dX2_drawSets_40 : decode cX2_drawSets 40 = .ok (.getfield 18, 3) := by decide +kernel
theorem dX2_drawSets_43 : decode cX2_drawSets 43 = .ok (.iconst 1, 1) := by decide +kernel
theorem dX2_drawSets_44 : decode cX2_drawSets 44 = .ok (.iaload, 1) := by decide +kernel
theorem dX2_drawSets_45 : decode cX2_drawSets 45 = .ok (.iload_n 1, 1) := by decide +kernel
theorem dX2_drawSets_46 : decode cX2_drawSets 46 = .ok (.iload 4, 2) := by decide +kernel
theorem dX2_drawSets_48 : decode cX2_drawSets 48 = .ok (.isub, 1) := by decide +kernel
theorem dX2_drawSets_49 : decode cX2_drawSets 49 = .ok (.invokestatic 116, 3) := by decide +kernel
theorem dX2_drawSets_52 : decode cX2_drawSets 52 = .ok (.if_icmp .gt 60, 3) := by decide +kernel
theorem dX2_drawSets_55 : decode cX2_drawSets 55 = .ok (.lload 5, 2) := by decide +kernel
theorem dX2_drawSets_57 : decode cX2_drawSets 57 = .ok (.aload_n 0, 1) := by decide +kernel
theorem dX2_drawSets_58 : decode cX2_drawSets 58 = .ok (.aload_n 0, 1) := by decide +kernel
theorem dX2_drawSets_59 : decode cX2_drawSets 59 = .ok (.getfield 18, 3) := by decide +kernel
theorem dX2_drawSets_62 : decode cX2_drawSets 62 = .ok (.iconst 1, 1) := by decide +kernel
theorem dX2_drawSets_63 : decode cX2_drawSets 63 = .ok (.iaload, 1) := by decide +kernel
theorem dX2_drawSets_64 : decode cX2_drawSets 64 = .ok (.iload 7, 2) := by decide +kernel
theorem dX2_drawSets_66 : decode cX2_drawSets 66 = .ok (.invokevirtual 125, 3) := by decide +kernel
theorem dX2_drawSets_69 : decode cX2_drawSets 69 = .ok (.lmul, 1) := by decide +kernel
theorem dX2_drawSets_70 : decode cX2_drawSets 70 = .ok (.lstore 8, 2) := by decide +kernel
theorem dX2_drawSets_72 : decode cX2_drawSets 72 = .ok (.aload_n 0, 1) := by decide +kernel
theorem dX2_drawSets_73 : decode cX2_drawSets 73 = .ok (.getfield 22, 3) := by decide +kernel
theorem dX2_drawSets_76 : decode cX2_drawSets 76 = .ok (.iconst 0, 1) := by decide +kernel
theorem dX2_drawSets_77 : decode cX2_drawSets 77 = .ok (.iload 4, 2) := by decide +kernel
theorem dX2_drawSets_79 : decode cX2_drawSets 79 = .ok (.iastore, 1) := by decide +kernel
theorem dX2_drawSets_80 : decode cX2_drawSets 80 = .ok (.aload_n 0, 1) := by decide +kernel
theorem dX2_drawSets_81 : decode cX2_drawSets 81 = .ok (.getfield 22, 3) := by decide +kernel
theorem dX2_drawSets_84 : decode cX2_drawSets 84 = .ok (.iconst 1, 1) := by decide +kernel
theorem dX2_drawSets_85 : decode cX2_drawSets 85 = .ok (.iload 7, 2) := by decide +kernel
theorem dX2_drawSets_87 : decode cX2_drawSets 87 = .ok (.iastore, 1) := by decide +kernel
theorem dX2_drawSets_88 : decode cX2_drawSets 88 = .ok (.aload_n 0, 1) := by decide +kernel
theorem dX2_drawSets_89 : decode cX2_drawSets 89 = .ok (.iload_n 1, 1) := by decide +kernel
theorem dX2_drawSets_90 : decode cX2_drawSets 90 = .ok (.iload 4, 2) := by decide +kernel
theorem dX2_drawSets_92 : decode cX2_drawSets 92 = .ok (.isub, 1) := by decide +kernel
theorem dX2_drawSets_93 : decode cX2_drawSets 93 = .ok (.iload 7, 2) := by decide +kernel
theorem dX2_drawSets_95 : decode cX2_drawSets 95 = .ok (.isub, 1) := by decide +kernel
theorem dX2_drawSets_96 : decode cX2_drawSets 96 = .ok (.lload 8, 2) := by decide +kernel
theorem dX2_drawSets_98 : decode cX2_drawSets 98 = .ok (.invokevirtual 204, 3) := by decide +kernel
theorem dX2_drawSets_101 : decode cX2_drawSets 101 = .ok (.ifCond .ne 5, 3) := by decide +kernel
theorem dX2_drawSets_104 : decode cX2_drawSets 104 = .ok (.iconst 0, 1) := by decide +kernel
theorem dX2_drawSets_105 : decode cX2_drawSets 105 = .ok (.ireturn, 1) := by decide +kernel
theorem dX2_drawSets_106 : decode cX2_drawSets 106 = .ok (.iinc 7 1, 3) := by decide +kernel
theorem dX2_drawSets_109 : decode cX2_drawSets 109 = .ok (.goto (-72), 3) := by decide +kernel
theorem dX2_drawSets_112 : decode cX2_drawSets 112 = .ok (.iinc 4 1, 3) := by decide +kernel
theorem dX2_drawSets_115 : decode cX2_drawSets 115 = .ok (.goto (-112), 3) := by decide +kernel
theorem dX2_drawSets_118 : decode cX2_drawSets 118 = .ok (.iconst 1, 1) := by decide +kernel
theorem dX2_drawSets_119 : decode cX2_drawSets 119 = .ok (.ireturn, 1) := by decide +kernel
set_option maxRecDepth 20000 in
theorem ggX2_drawLastTwo_X2_keyOfGets : GoodIn wsX2_drawLastTwo wsX2_keyOfGets := goodIn_r _ [15, 9, 30, 31, 32, 33, 34, 35, 36, 37, 38, 39, 40, 41, 42, 43, 44, 45] (by decide +kernel) (by decide +kernel)
set_option maxRecDepth 20000 in
theorem gX2_drawLastTwo_X2_keyOfGets : GoodIn wsX2_drawLastTwo (wsV RX2 162 RX2 yX2_keyOfGets wsX2_keyOfGets) := goodIn_app (goodIn_of _ (by decide +kernel)) ggX2_drawLastTwo_X2_keyOfGets
set_option maxRecDepth 20000 in
theorem ggX2_drawLastTwo_X2_setsOf : GoodIn wsX2_drawLastTwo wsX2_setsOf := goodIn_r _ [19, 20, 30, 31, 32, 33, 34, 35, 36, 37, 38, 39, 40, 41, 42, 43, 44, 45] (by decide +kernel) (by decide +kernel)
set_option maxRecDepth 20000 in
theorem gX2_drawLastTwo_X2_setsOf : GoodIn wsX2_drawLastTwo (wsV RX2 125 RX2 yX2_setsOf wsX2_setsOf) := goodIn_app (goodIn_of _ (by decide +kernel)) ggX2_drawLastTwo_X2_setsOf
set_option maxRecDepth 20000 in
theorem ggX2_drawLastTwo_X7_add : GoodIn wsX2_drawLastTwo wsX7_add := goodIn_r _ [25, 26, 27, 28, 29, 46, 47, 48, 49] (by decide +kernel) (by decide +kernel)
set_option maxRecDepth 20000 in
theorem gX2_drawLastTwo_X7_add : GoodIn wsX2_drawLastTwo (wsV RX2 165 RX7 yX7_add wsX7_add) := goodIn_app (goodIn_of _ (by decide +kernel)) ggX2_drawLastTwo_X7_add
theorem dX2_drawLastTwo_0 : decode cX2_drawLastTwo 0 = .ok (.iconst 0, 1) := by decide +kernel
theorem dX2_drawLastTwo_1 : decode cX2_drawLastTwo 1 = .ok (.iload_n 1, 1) := by decide +kernel
theorem dX2_drawLastTwo_2 : decode cX2_drawLastTwo 2 = .ok (.aload_n 0, 1) := by decide +kernel
theorem dX2_drawLastTwo_3 : decode cX2_drawLastTwo 3 = .ok (.getfield 18, 3) := by decide +kernel
theorem dX2_drawLastTwo_6 : decode cX2_drawLastTwo 6 = .ok (.iconst 3, 1) := by decide +kernel
theorem dX2_drawLastTwo_7 : decode cX2_drawLastTwo 7 = .ok (.iaload, 1) := by decide +kernel
theorem dX2_drawLastTwo_8 : decode cX2_drawLastTwo 8 = .ok (.isub, 1) := by decide +kernel
theorem dX2_drawLastTwo_9 : decode cX2_drawLastTwo 9 = .ok (.invokestatic 207, 3) := by decide +kernel
theorem dX2_drawLastTwo_12 : decode cX2_drawLastTwo 12 = .ok (.istore 4, 2) := by decide +kernel
theorem dX2_drawLastTwo_14 : decode cX2_drawLastTwo 14 = .ok (.iload 4, 2) := by decide +kernel
theorem dX2_drawLastTwo_16 : decode cX2_drawLastTwo 16 = .ok (.aload_n 0, 1) := by decide +kernel
theorem dX2_drawLastTwo_17 : decode cX2_drawLastTwo 17 = .ok (.getfield 18, 3) := by decide +kernel
theorem dX2_drawLastTwo_20 : decode cX2_drawLastTwo 20 = .ok (.iconst 2, 1) := by decide +kernel
theorem dX2_drawLastTwo_21 : decode cX2_drawLastTwo 21 = .ok (.iaload, 1) := by decide +kernel
theorem dX2_drawLastTwo_22 : decode cX2_drawLastTwo 22 = .ok (.iload_n 1, 1) := by decide +kernel
theorem dX2_drawLastTwo_23 : decode cX2_drawLastTwo 23 = .ok (.invokestatic 116, 3) := by decide +kernel
theorem dX2_drawLastTwo_26 : decode cX2_drawLastTwo 26 = .ok (.if_icmp .gt 62, 3) := by decide +kernel
theorem dX2_drawLastTwo_29 : decode cX2_drawLastTwo 29 = .ok (.aload_n 0, 1) := by decide +kernel
theorem dX2_drawLastTwo_30 : decode cX2_drawLastTwo 30 = .ok (.getfield 22, 3) := by decide +kernel
theorem dX2_drawLastTwo_33 : decode cX2_drawLastTwo 33 = .ok (.iconst 2, 1) := by decide +kernel
theorem dX2_drawLastTwo_34 : decode cX2_drawLastTwo 34 = .ok (.iload 4, 2) := by decide +kernel
theorem dX2_drawLastTwo_36 : decode cX2_drawLastTwo 36 = .ok (.iastore, 1) := by decide +kernel
theorem dX2_drawLastTwo_37 : decode cX2_drawLastTwo 37 = .ok (.aload_n 0, 1) := by decide +kernel
theorem dX2_drawLastTwo_38 : decode cX2_drawLastTwo 38 = .ok (.getfield 51, 3) := by decide +kernel
theorem dX2_drawLastTwo_41 : decode cX2_drawLastTwo 41 = .ok (.aload_n 0, 1) := by decide +kernel
theorem dX2_drawLastTwo_42 : decode cX2_drawLastTwo 42 = .ok (.invokevirtual 162, 3) := by decide +kernel
theorem dX2_drawLastTwo_45 : decode cX2_drawLastTwo 45 = .ok (.lload_n 2, 1) := by decide +kernel
theorem dX2_drawLastTwo_46 : decode cX2_drawLastTwo 46 = .ok (.aload_n 0, 1) := by decide +kernel
theorem dX2_drawLastTwo_47 : decode cX2_drawLastTwo 47 = .ok (.aload_n 0, 1) := by decide +kernel
theorem dX2_drawLastTwo_48 : decode cX2_drawLastTwo 48 = .ok (.getfield 18, 3) := by decide +kernel
theorem dX2_drawLastTwo_51 : decode cX2_drawLastTwo 51 = .ok (.iconst 2, 1) := by decide +kernel
theorem dX2_drawLastTwo_52 : decode cX2_drawLastTwo 52 = .ok (.iaload, 1) := by decide +kernel
theorem dX2_drawLastTwo_53 : decode cX2_drawLastTwo 53 = .ok (.iload 4, 2) := by decide +kernel
theorem dX2_drawLastTwo_55 : decode cX2_drawLastTwo 55 = .ok (.invokevirtual 125, 3) := by decide +kernel
theorem dX2_drawLastTwo_58 : decode cX2_drawLastTwo 58 = .ok (.lmul, 1) := by decide +kernel
theorem dX2_drawLastTwo_59 : decode cX2_drawLastTwo 59 = .ok (.aload_n 0, 1) := by decide +kernel
theorem dX2_drawLastTwo_60 : decode cX2_drawLastTwo 60 = .ok (.aload_n 0, 1) := by decide +kernel
theorem dX2_drawLastTwo_61 : decode cX2_drawLastTwo 61 = .ok (.getfield 18, 3) := by decide +kernel
theorem dX2_drawLastTwo_64 : decode cX2_drawLastTwo 64 = .ok (.iconst 3, 1) := by decide +kernel
theorem dX2_drawLastTwo_65 : decode cX2_drawLastTwo 65 = .ok (.iaload, 1) := by decide +kernel
theorem dX2_drawLastTwo_66 : decode cX2_drawLastTwo 66 = .ok (.iload_n 1, 1) := by decide +kernel
theorem dX2_drawLastTwo_67 : decode cX2_drawLastTwo 67 = .ok (.iload 4, 2) := by decide +kernel
theorem dX2_drawLastTwo_69 : decode cX2_drawLastTwo 69 = .ok (.isub, 1) := by decide +kernel
theorem dX2_drawLastTwo_70 : decode cX2_drawLastTwo 70 = .ok (.invokevirtual 125, 3) := by decide +kernel
theorem dX2_drawLastTwo_73 : decode cX2_drawLastTwo 73 = .ok (.lmul, 1) := by decide +kernel
theorem dX2_drawLastTwo_74 : decode cX2_drawLastTwo 74 = .ok (.invokevirtual 165, 3) := by decide +kernel
theorem dX2_drawLastTwo_77 : decode cX2_drawLastTwo 77 = .ok (.ifCond .ne 5, 3) := by decide +kernel
theorem dX2_drawLastTwo_80 : decode cX2_drawLastTwo 80 = .ok (.iconst 0, 1) := by decide +kernel
theorem dX2_drawLastTwo_81 : decode cX2_drawLastTwo 81 = .ok (.ireturn, 1) := by decide +kernel
theorem dX2_drawLastTwo_82 : decode cX2_drawLastTwo 82 = .ok (.iinc 4 1, 3) := by decide +kernel
theorem dX2_drawLastTwo_85 : decode cX2_drawLastTwo 85 = .ok (.goto (-71), 3) := by decide +kernel
theorem dX2_drawLastTwo_88 : decode cX2_drawLastTwo 88 = .ok (.iconst 1, 1) := by decide +kernel
theorem dX2_drawLastTwo_89 : decode cX2_drawLastTwo 89 = .ok (.ireturn, 1) := by decide +kernel
theorem dX2_findEnough_0 : decode cX2_findEnough 0 = .ok (.iconst 0, 1) := by decide +kernel
theorem dX2_findEnough_1 : decode cX2_findEnough 1 = .ok (.istore_n 2, 1) := by decide +kernel
theorem dX2_findEnough_2 : decode cX2_findEnough 2 = .ok (.iload_n 2, 1) := by decide +kernel
theorem dX2_findEnough_3 : decode cX2_findEnough 3 = .ok (.iconst 4, 1) := by decide +kernel
theorem dX2_findEnough_4 : decode cX2_findEnough 4 = .ok (.if_icmp .ge 64, 3) := by decide +kernel
theorem dX2_findEnough_7 : decode cX2_findEnough 7 = .ok (.iconst 0, 1) := by decide +kernel
theorem dX2_findEnough_8 : decode cX2_findEnough 8 = .ok (.istore_n 3, 1) := by decide +kernel
theorem dX2_findEnough_9 : decode cX2_findEnough 9 = .ok (.iconst 0, 1) := by decide +kernel
theorem dX2_findEnough_10 : decode cX2_findEnough 10 = .ok (.istore 4, 2) := by decide +kernel
theorem dX2_findEnough_12 : decode cX2_findEnough 12 = .ok (.iload 4, 2) := by decide +kernel
theorem dX2_findEnough_14 : decode cX2_findEnough 14 = .ok (.iconst 4, 1) := by decide +kernel
theorem dX2_findEnough_15 : decode cX2_findEnough 15 = .ok (.if_icmp .ge 31, 3) := by decide +kernel
theorem dX2_findEnough_18 : decode cX2_findEnough 18 = .ok (.iload_n 3, 1) := by decide +kernel
theorem dX2_findEnough_19 : decode cX2_findEnough 19 = .ok (.aload_n 0, 1) := by decide +kernel
theorem dX2_findEnough_20 : decode cX2_findEnough 20 = .ok (.getfield 35, 3) := by decide +kernel
theorem dX2_findEnough_23 : decode cX2_findEnough 23 = .ok (.iload 4, 2) := by decide +kernel
theorem dX2_findEnough_25 : decode cX2_findEnough 25 = .ok (.iconst 4, 1) := by decide +kernel
theorem dX2_findEnough_26 : decode cX2_findEnough 26 = .ok (.imul, 1) := by decide +kernel
theorem dX2_findEnough_27 : decode cX2_findEnough 27 = .ok (.iload_n 2, 1) := by decide +kernel
theorem dX2_findEnough_28 : decode cX2_findEnough 28 = .ok (.iadd, 1) := by decide +kernel
theorem dX2_findEnough_29 : decode cX2_findEnough 29 = .ok (.iaload, 1) := by decide +kernel
theorem dX2_findEnough_30 : decode cX2_findEnough 30 = .ok (.aload_n 0, 1) := by decide +kernel
theorem dX2_findEnough_31 : decode cX2_findEnough 31 = .ok (.getfield 18, 3) := by decide +kernel
theorem dX2_findEnough_34 : decode cX2_findEnough 34 = .ok (.iload 4, 2) := by decide +kernel
theorem dX2_findEnough_36 : decode cX2_findEnough 36 = .ok (.iaload, 1) := by decide +kernel
theorem dX2_findEnough_37 : decode cX2_findEnough 37 = .ok (.imul, 1) := by decide +kernel
theorem dX2_findEnough_38 : decode cX2_findEnough 38 = .ok (.iadd, 1) := by decide +kernel
theorem dX2_findEnough_39 : decode cX2_findEnough 39 = .ok (.istore_n 3, 1) := by decide +kernel
theorem dX2_findEnough_40 : decode cX2_findEnough 40 = .ok (.iinc 4 1, 3) := by decide +kernel
theorem dX2_findEnough_43 : decode cX2_findEnough 43 = .ok (.goto (-31), 3) := by decide +kernel
theorem dX2_findEnough_46 : decode cX2_findEnough 46 = .ok (.aload_n 0, 1) := by decide +kernel
theorem dX2_findEnough_47 : decode cX2_findEnough 47 = .ok (.getfield 25, 3) := by decide +kernel
theorem dX2_findEnough_50 : decode cX2_findEnough 50 = .ok (.iload_n 2, 1) := by decide +kernel
theorem dX2_findEnough_51 : decode cX2_findEnough 51 = .ok (.iload_n 3, 1) := by decide +kernel
theorem dX2_findEnough_52 : decode cX2_findEnough 52 = .ok (.iload_n 1, 1) := by decide +kernel
theorem dX2_findEnough_53 : decode cX2_findEnough 53 = .ok (.if_icmp .lt 7, 3) := by decide +kernel
theorem dX2_findEnough_56 : decode cX2_findEnough 56 = .ok (.iconst 1, 1) := by decide +kernel
theorem dX2_findEnough_57 : decode cX2_findEnough 57 = .ok (.goto 4, 3) := by decide +kernel
theorem dX2_findEnough_60 : decode cX2_findEnough 60 = .ok (.iconst 0, 1) := by decide +kernel
theorem dX2_findEnough_61 : decode cX2_findEnough 61 = .ok (.bastore, 1) := by decide +kernel
theorem dX2_findEnough_62 : decode cX2_findEnough 62 = .ok (.iinc 2 1, 3) := by decide +kernel
theorem dX2_findEnough_65 : decode cX2_findEnough 65 = .ok (.goto (-63), 3) := by decide +kernel
theorem dX2_findEnough_68 : decode cX2_findEnough 68 = .ok (.return_, 1) := by decide +kernel
set_option maxRecDepth 20000 in
theorem ggX2_chooseFirst_J7_fill_53178 : GoodIn wsX2_chooseFirst wsJ7_fill_53178 := goodIn_r _ [9] (by decide +kernel) (by decide +kernel)
set_option maxRecDepth 20000 in
theorem gX2_chooseFirst_J7_fill_53178 : GoodIn wsX2_chooseFirst (va_wsS RX2 149 yJ7_fill_53178 wsJ7_fill_53178) := goodIn_app (goodIn_of _ (by decide +kernel)) ggX2_chooseFirst_J7_fill_53178
set_option maxRecDepth 20000 in
theorem ggX2_chooseFirst_X0_isParty : GoodIn wsX2_chooseFirst wsX0_isParty := goodIn_r _ [13] (by decide +kernel) (by decide +kernel)
set_option maxRecDepth 20000 in
theorem gX2_chooseFirst_X0_isParty : GoodIn wsX2_chooseFirst (va_wsS RX2 169 yX0_isParty wsX0_isParty) := goodIn_app (goodIn_of _ (by decide +kernel)) ggX2_chooseFirst_X0_isParty
theorem dX2_chooseFirst_0 : decode cX2_chooseFirst 0 = .ok (.aload_n 0, 1) := by decide +kernel
theorem dX2_chooseFirst_1 : decode cX2_chooseFirst 1 = .ok (.getfield 22, 3) := by decide +kernel
theorem dX2_chooseFirst_4 : decode cX2_chooseFirst 4 = .ok (.iconst 0, 1) := by decide +kernel
theorem dX2_chooseFirst_5 : decode cX2_chooseFirst 5 = .ok (.invokestatic 149, 3) := by decide +kernel
theorem dX2_chooseFirst_8 : decode cX2_chooseFirst 8 = .ok (.iconst 0, 1) := by decide +kernel
theorem dX2_chooseFirst_9 : decode cX2_chooseFirst 9 = .ok (.istore_n 2, 1) := by decide +kernel
theorem dX2_chooseFirst_10 : decode cX2_chooseFirst 10 = .ok (.iconst 0, 1) := by decide +kernel
theorem dX2_chooseFirst_11 : decode cX2_chooseFirst 11 = .ok (.istore_n 3, 1) := by decide +kernel
theorem dX2_chooseFirst_12 : decode cX2_chooseFirst 12 = .ok (.iload_n 3, 1) := by decide +kernel
theorem dX2_chooseFirst_13 : decode cX2_chooseFirst 13 = .ok (.aload_n 0, 1) := by decide +kernel
theorem dX2_chooseFirst_14 : decode cX2_chooseFirst 14 = .ok (.getfield 135, 3) := by decide +kernel
theorem dX2_chooseFirst_17 : decode cX2_chooseFirst 17 = .ok (.if_icmp .ge 61, 3) := by decide +kernel
theorem dX2_chooseFirst_20 : decode cX2_chooseFirst 20 = .ok (.aload_n 0, 1) := by decide +kernel
theorem dX2_chooseFirst_21 : decode cX2_chooseFirst 21 = .ok (.getfield 32, 3) := by decide +kernel
theorem dX2_chooseFirst_24 : decode cX2_chooseFirst 24 = .ok (.iload_n 3, 1) := by decide +kernel
theorem dX2_chooseFirst_25 : decode cX2_chooseFirst 25 = .ok (.iaload, 1) := by decide +kernel
theorem dX2_chooseFirst_26 : decode cX2_chooseFirst 26 = .ok (.istore 4, 2) := by decide +kernel
theorem dX2_chooseFirst_28 : decode cX2_chooseFirst 28 = .ok (.iload 4, 2) := by decide +kernel
theorem dX2_chooseFirst_30 : decode cX2_chooseFirst 30 = .ok (.invokestatic 169, 3) := by decide +kernel
theorem dX2_chooseFirst_33 : decode cX2_chooseFirst 33 = .ok (.ifCond .eq 39, 3) := by decide +kernel
theorem dX2_chooseFirst_36 : decode cX2_chooseFirst 36 = .ok (.aload_n 0, 1) := by decide +kernel
theorem dX2_chooseFirst_37 : decode cX2_chooseFirst 37 = .ok (.getfield 25, 3) := by decide +kernel
theorem dX2_chooseFirst_40 : decode cX2_chooseFirst 40 = .ok (.iload 4, 2) := by decide +kernel
theorem dX2_chooseFirst_42 : decode cX2_chooseFirst 42 = .ok (.baload, 1) := by decide +kernel
theorem dX2_chooseFirst_43 : decode cX2_chooseFirst 43 = .ok (.ifCond .eq 29, 3) := by decide +kernel
theorem dX2_chooseFirst_46 : decode cX2_chooseFirst 46 = .ok (.aload_n 0, 1) := by decide +kernel
theorem dX2_chooseFirst_47 : decode cX2_chooseFirst 47 = .ok (.getfield 22, 3) := by decide +kernel
theorem dX2_chooseFirst_50 : decode cX2_chooseFirst 50 = .ok (.iload 4, 2) := by decide +kernel
theorem dX2_chooseFirst_52 : decode cX2_chooseFirst 52 = .ok (.dup2, 1) := by decide +kernel
theorem dX2_chooseFirst_53 : decode cX2_chooseFirst 53 = .ok (.iaload, 1) := by decide +kernel
theorem dX2_chooseFirst_54 : decode cX2_chooseFirst 54 = .ok (.iconst 1, 1) := by decide +kernel
theorem dX2_chooseFirst_55 : decode cX2_chooseFirst 55 = .ok (.iadd, 1) := by decide +kernel
theorem dX2_chooseFirst_56 : decode cX2_chooseFirst 56 = .ok (.iastore, 1) := by decide +kernel
theorem dX2_chooseFirst_57 : decode cX2_chooseFirst 57 = .ok (.iinc 2 1, 3) := by decide +kernel
theorem dX2_chooseFirst_60 : decode cX2_chooseFirst 60 = .ok (.iload_n 2, 1) := by decide +kernel
theorem dX2_chooseFirst_61 : decode cX2_chooseFirst 61 = .ok (.iload_n 1, 1) := by decide +kernel
theorem dX2_chooseFirst_62 : decode cX2_chooseFirst 62 = .ok (.if_icmp .lt 10, 3) := by decide +kernel
theorem dX2_chooseFirst_65 : decode cX2_chooseFirst 65 = .ok (.aload_n 0, 1) := by decide +kernel
theorem dX2_chooseFirst_66 : decode cX2_chooseFirst 66 = .ok (.getfield 29, 3) := by decide +kernel
theorem dX2_chooseFirst_69 : decode cX2_chooseFirst 69 = .ok (.iload_n 3, 1) := by decide +kernel
theorem dX2_chooseFirst_70 : decode cX2_chooseFirst 70 = .ok (.iaload, 1) := by decide +kernel
theorem dX2_chooseFirst_71 : decode cX2_chooseFirst 71 = .ok (.ireturn, 1) := by decide +kernel
theorem dX2_chooseFirst_72 : decode cX2_chooseFirst 72 = .ok (.iinc 3 1, 3) := by decide +kernel
theorem dX2_chooseFirst_75 : decode cX2_chooseFirst 75 = .ok (.goto (-63), 3) := by decide +kernel
theorem dX2_chooseFirst_78 : decode cX2_chooseFirst 78 = .ok (.iconst (-1), 1) := by decide +kernel
theorem dX2_chooseFirst_79 : decode cX2_chooseFirst 79 = .ok (.ireturn, 1) := by decide +kernel
theorem dX3_init_0 : decode cX3_init 0 = .ok (.aload_n 0, 1) := by decide +kernel
theorem dX3_init_1 : decode cX3_init 1 = .ok (.invokespecial 3, 3) := by decide +kernel
theorem dX3_init_4 : decode cX3_init 4 = .ok (.aload_n 0, 1) := by decide +kernel
theorem dX3_init_5 : decode cX3_init 5 = .ok (.bipush 12, 2) := by decide +kernel
theorem dX3_init_7 : decode cX3_init 7 = .ok (.newarray .int, 2) := by decide +kernel
theorem dX3_init_9 : decode cX3_init 9 = .ok (.putfield 9, 3) := by decide +kernel
theorem dX3_init_12 : decode cX3_init 12 = .ok (.aload_n 0, 1) := by decide +kernel
theorem dX3_init_13 : decode cX3_init 13 = .ok (.bipush 12, 2) := by decide +kernel
theorem dX3_init_15 : decode cX3_init 15 = .ok (.newarray .int, 2) := by decide +kernel
theorem dX3_init_17 : decode cX3_init 17 = .ok (.putfield 15, 3) := by decide +kernel
theorem dX3_init_20 : decode cX3_init 20 = .ok (.aload_n 0, 1) := by decide +kernel
theorem dX3_init_21 : decode cX3_init 21 = .ok (.bipush 12, 2) := by decide +kernel
theorem dX3_init_23 : decode cX3_init 23 = .ok (.newarray .int, 2) := by decide +kernel
theorem dX3_init_25 : decode cX3_init 25 = .ok (.putfield 18, 3) := by decide +kernel
theorem dX3_init_28 : decode cX3_init 28 = .ok (.aload_n 0, 1) := by decide +kernel
theorem dX3_init_29 : decode cX3_init 29 = .ok (.bipush 12, 2) := by decide +kernel
theorem dX3_init_31 : decode cX3_init 31 = .ok (.newarray .int, 2) := by decide +kernel
theorem dX3_init_33 : decode cX3_init 33 = .ok (.putfield 21, 3) := by decide +kernel
theorem dX3_init_36 : decode cX3_init 36 = .ok (.return_, 1) := by decide +kernel
theorem dX3_length_0 : decode cX3_length 0 = .ok (.aload_n 0, 1) := by decide +kernel
theorem dX3_length_1 : decode cX3_length 1 = .ok (.getfield 24, 3) := by decide +kernel
theorem dX3_length_4 : decode cX3_length 4 = .ok (.ireturn, 1) := by decide +kernel
theorem dX3_clear_0 : decode cX3_clear 0 = .ok (.aload_n 0, 1) := by decide +kernel
theorem dX3_clear_1 : decode cX3_clear 1 = .ok (.iconst 0, 1) := by decide +kernel
theorem dX3_clear_2 : decode cX3_clear 2 = .ok (.putfield 24, 3) := by decide +kernel
theorem dX3_clear_5 : decode cX3_clear 5 = .ok (.return_, 1) := by decide +kernel
theorem dX3_add_0 : decode cX3_add 0 = .ok (.aload_n 0, 1) := by decide +kernel
