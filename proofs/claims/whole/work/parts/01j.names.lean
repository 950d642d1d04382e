theorem dX10_number_107 : decode cX10_number 107 = .ok (.aload_n 0, 1) := by decide +kernel
theorem dX10_number_108 : decode cX10_number 108 = .ok (.dup, 1) := by decide +kernel
theorem dX10_number_109 : decode cX10_number 109 = .ok (.getfield 128, 3) := by decide +kernel
theorem dX10_number_112 : decode cX10_number 112 = .ok (.iconst 1, 1) := by decide +kernel
theorem dX10_number_113 : decode cX10_number 113 = .ok (.iadd, 1) := by decide +kernel
theorem dX10_number_114 : decode cX10_number 114 = .ok (.putfield 128, 3) := by decide +kernel
theorem dX10_number_117 : decode cX10_number 117 = .ok (.goto (-77), 3) := by decide +kernel
theorem dX10_number_120 : decode cX10_number 120 = .ok (.aload_n 0, 1) := by decide +kernel
theorem dX10_number_121 : decode cX10_number 121 = .ok (.iload 4, 2) := by decide +kernel
theorem dX10_number_123 : decode cX10_number 123 = .ok (.putfield 148, 3) := by decide +kernel
theorem dX10_number_126 : decode cX10_number 126 = .ok (.iload_n 3, 1) := by decide +kernel
theorem dX10_number_127 : decode cX10_number 127 = .ok (.iconst 2, 1) := by decide +kernel
theorem dX10_number_128 : decode cX10_number 128 = .ok (.if_icmp .gt 13, 3) := by decide +kernel
theorem dX10_number_131 : decode cX10_number 131 = .ok (.iload 4, 2) := by decide +kernel
theorem dX10_number_133 : decode cX10_number 133 = .ok (.iconst 1, 1) := by decide +kernel
theorem dX10_number_134 : decode cX10_number 134 = .ok (.iload_n 1, 1) := by decide +kernel
theorem dX10_number_135 : decode cX10_number 135 = .ok (.invokestatic 101, 3) := by decide +kernel
theorem dX10_number_138 : decode cX10_number 138 = .ok (.ifCond .ne 15, 3) := by decide +kernel
theorem dX10_number_141 : decode cX10_number 141 = .ok (.aload_n 0, 1) := by decide +kernel
theorem dX10_number_142 : decode cX10_number 142 = .ok (.iconst 1, 1) := by decide +kernel
theorem dX10_number_143 : decode cX10_number 143 = .ok (.aload_n 0, 1) := by decide +kernel
theorem dX10_number_144 : decode cX10_number 144 = .ok (.getfield 145, 3) := by decide +kernel
theorem dX10_number_147 : decode cX10_number 147 = .ok (.invokevirtual 141, 3) := by decide +kernel
theorem dX10_number_150 : decode cX10_number 150 = .ok (.ifCond .eq 7, 3) := by decide +kernel
theorem dX10_number_153 : decode cX10_number 153 = .ok (.iconst 1, 1) := by decide +kernel
theorem dX10_number_154 : decode cX10_number 154 = .ok (.goto 4, 3) := by decide +kernel
theorem dX10_number_157 : decode cX10_number 157 = .ok (.iconst 0, 1) := by decide +kernel
theorem dX10_number_158 : decode cX10_number 158 = .ok (.ireturn, 1) := by decide +kernel
set_option maxRecDepth 20000 in
theorem ggX10_by_X10_looks : GoodIn wsX10_by wsX10_looks := goodIn_r _ [8, 3, 1, 2, 9, 10, 11, 12, 13, 7, 14, 34, 35, 36, 37, 38, 39, 40, 41, 42, 43, 44, 45, 46, 47, 48, 49, 50, 51, 52, 53, 54, 55, 56, 57, 58, 59, 60, 61, 62, 63, 64, 65, 66, 67, 68, 69, 70, 71, 72, 73, 74, 75, 76, 77, 78, 79, 80, 81, 82, 83] (by decide +kernel) (by decide +kernel)
set_option maxRecDepth 20000 in
theorem gX10_by_X10_looks : GoodIn wsX10_by (wsV RX10 151 RX10 yX10_looks wsX10_looks) := goodIn_app (goodIn_of _ (by decide +kernel)) ggX10_by_X10_looks
set_option maxRecDepth 20000 in
theorem ggX10_by_X10_isWord : GoodIn wsX10_by wsX10_isWord := goodIn_r _ [18, 19, 2, 10, 1, 34, 35, 36, 37, 38, 39, 40, 41, 42, 43, 44, 45, 46, 47, 48, 49, 50, 51, 52, 53, 54, 55, 56, 57, 58, 59, 60, 61, 62, 63, 64, 65, 66, 67, 68, 69, 70, 71, 72, 73, 74, 75, 76, 77, 78, 79, 80, 81, 82, 83] (by decide +kernel) (by decide +kernel)
set_option maxRecDepth 20000 in
theorem gX10_by_X10_isWord : GoodIn wsX10_by (wsV RX10 154 RX10 yX10_isWord wsX10_isWord) := goodIn_app (goodIn_of _ (by decide +kernel)) ggX10_by_X10_isWord
set_option maxRecDepth 20000 in
theorem ggX10_by_X10_fails : GoodIn wsX10_by wsX10_fails := goodIn_r _ [23, 24, 34, 35, 36, 37, 38, 39, 40, 41, 42, 43, 44, 45, 46, 47, 48, 49, 50, 51, 52, 53, 54, 55, 56, 57, 58, 59, 60, 61, 62, 63, 64, 65, 66, 67, 68, 69, 70, 71, 72, 73, 74, 75, 76, 77, 78, 79, 80, 81, 82, 83] (by decide +kernel) (by decide +kernel)
set_option maxRecDepth 20000 in
theorem gX10_by_X10_fails : GoodIn wsX10_by (wsV RX10 141 RX10 yX10_fails wsX10_fails) := goodIn_app (goodIn_of _ (by decide +kernel)) ggX10_by_X10_fails
set_option maxRecDepth 20000 in
theorem ggX10_by_X10_number : GoodIn wsX10_by wsX10_number := goodIn_r _ [28, 3, 29, 9, 10, 30, 11, 12, 13, 7, 14, 20, 21, 22, 23, 24, 31, 32, 33, 34, 35, 36, 37, 38, 39, 40, 41, 42, 43, 44, 45, 46, 47, 48, 49, 50, 51, 52, 53, 54, 55, 56, 57, 58, 59, 60, 61, 62, 63, 64, 65, 66, 67, 68, 69, 70, 71, 72, 73, 74, 75, 76, 77, 78, 79, 80, 81, 82, 83] (by decide +kernel) (by decide +kernel)
set_option maxRecDepth 20000 in
theorem gX10_by_X10_number : GoodIn wsX10_by (wsV RX10 158 RX10 yX10_number wsX10_number) := goodIn_app (goodIn_of _ (by decide +kernel)) ggX10_by_X10_number
theorem dX10_by_0 : decode cX10_by 0 = .ok (.aload_n 0, 1) := by decide +kernel
theorem dX10_by_1 : decode cX10_by 1 = .ok (.invokevirtual 151, 3) := by decide +kernel
theorem dX10_by_4 : decode cX10_by 4 = .ok (.aload_n 0, 1) := by decide +kernel
theorem dX10_by_5 : decode cX10_by 5 = .ok (.bipush 98, 2) := by decide +kernel
theorem dX10_by_7 : decode cX10_by 7 = .ok (.bipush 121, 2) := by decide +kernel
theorem dX10_by_9 : decode cX10_by 9 = .ok (.iconst 0, 1) := by decide +kernel
theorem dX10_by_10 : decode cX10_by 10 = .ok (.iconst 0, 1) := by decide +kernel
theorem dX10_by_11 : decode cX10_by 11 = .ok (.iconst 0, 1) := by decide +kernel
theorem dX10_by_12 : decode cX10_by 12 = .ok (.iconst 0, 1) := by decide +kernel
theorem dX10_by_13 : decode cX10_by 13 = .ok (.invokevirtual 154, 3) := by decide +kernel
theorem dX10_by_16 : decode cX10_by 16 = .ok (.ifCond .ne 13, 3) := by decide +kernel
theorem dX10_by_19 : decode cX10_by 19 = .ok (.aload_n 0, 1) := by decide +kernel
theorem dX10_by_20 : decode cX10_by 20 = .ok (.iconst 0, 1) := by decide +kernel
theorem dX10_by_21 : decode cX10_by 21 = .ok (.aload_n 0, 1) := by decide +kernel
theorem dX10_by_22 : decode cX10_by 22 = .ok (.getfield 135, 3) := by decide +kernel
theorem dX10_by_25 : decode cX10_by 25 = .ok (.invokevirtual 141, 3) := by decide +kernel
theorem dX10_by_28 : decode cX10_by 28 = .ok (.ireturn, 1) := by decide +kernel
theorem dX10_by_29 : decode cX10_by 29 = .ok (.aload_n 0, 1) := by decide +kernel
theorem dX10_by_30 : decode cX10_by 30 = .ok (.aload_n 0, 1) := by decide +kernel
theorem dX10_by_31 : decode cX10_by 31 = .ok (.getfield 135, 3) := by decide +kernel
theorem dX10_by_34 : decode cX10_by 34 = .ok (.aload_n 0, 1) := by decide +kernel
theorem dX10_by_35 : decode cX10_by 35 = .ok (.getfield 138, 3) := by decide +kernel
theorem dX10_by_38 : decode cX10_by 38 = .ok (.iadd, 1) := by decide +kernel
theorem dX10_by_39 : decode cX10_by 39 = .ok (.putfield 128, 3) := by decide +kernel
theorem dX10_by_42 : decode cX10_by 42 = .ok (.aload_n 0, 1) := by decide +kernel
theorem dX10_by_43 : decode cX10_by 43 = .ok (.bipush 40, 2) := by decide +kernel
theorem dX10_by_45 : decode cX10_by 45 = .ok (.invokevirtual 158, 3) := by decide +kernel
theorem dX10_by_48 : decode cX10_by 48 = .ok (.ireturn, 1) := by decide +kernel
set_option maxRecDepth 20000 in
theorem ggX10_oneStep_X10_looks : GoodIn wsX10_oneStep wsX10_looks := goodIn_r _ [15, 3, 1, 2, 16, 17, 18, 19, 20, 14, 21, 43, 44, 45, 46, 47, 48, 49, 50, 51, 52, 53, 54, 55, 56, 57, 58, 59, 60, 61, 62, 63, 64, 65, 66, 67, 68, 69, 70, 71, 72, 73, 74, 75, 76, 77, 78, 79, 80, 81, 82, 83, 84, 85, 86, 87, 88, 89, 90, 91, 92] (by decide +kernel) (by decide +kernel)
set_option maxRecDepth 20000 in
theorem gX10_oneStep_X10_looks : GoodIn wsX10_oneStep (wsV RX10 151 RX10 yX10_looks wsX10_looks) := goodIn_app (goodIn_of _ (by decide +kernel)) ggX10_oneStep_X10_looks
set_option maxRecDepth 20000 in
theorem ggX10_oneStep_X10_isWord : GoodIn wsX10_oneStep wsX10_isWord := goodIn_r _ [25, 26, 2, 17, 1, 43, 44, 45, 46, 47, 48, 49, 50, 51, 52, 53, 54, 55, 56, 57, 58, 59, 60, 61, 62, 63, 64, 65, 66, 67, 68, 69, 70, 71, 72, 73, 74, 75, 76, 77, 78, 79, 80, 81, 82, 83, 84, 85, 86, 87, 88, 89, 90, 91, 92] (by decide +kernel) (by decide +kernel)
set_option maxRecDepth 20000 in
theorem gX10_oneStep_X10_isWord : GoodIn wsX10_oneStep (wsV RX10 154 RX10 yX10_isWord wsX10_isWord) := goodIn_app (goodIn_of _ (by decide +kernel)) ggX10_oneStep_X10_isWord
set_option maxRecDepth 20000 in
theorem ggX10_oneStep_X10_fails : GoodIn wsX10_oneStep wsX10_fails := goodIn_r _ [30, 31, 43, 44, 45, 46, 47, 48, 49, 50, 51, 52, 53, 54, 55, 56, 57, 58, 59, 60, 61, 62, 63, 64, 65, 66, 67, 68, 69, 70, 71, 72, 73, 74, 75, 76, 77, 78, 79, 80, 81, 82, 83, 84, 85, 86, 87, 88, 89, 90, 91, 92] (by decide +kernel) (by decide +kernel)
set_option maxRecDepth 20000 in
theorem gX10_oneStep_X10_fails : GoodIn wsX10_oneStep (wsV RX10 141 RX10 yX10_fails wsX10_fails) := goodIn_app (goodIn_of _ (by decide +kernel)) ggX10_oneStep_X10_fails
set_option maxRecDepth 20000 in
theorem ggX10_oneStep_X10_number : GoodIn wsX10_oneStep wsX10_number := goodIn_r _ [35, 3, 10, 16, 17, 8, 18, 19, 20, 14, 21, 27, 28, 29, 30, 31, 36, 37, 38, 43, 44, 45, 46, 47, 48, 49, 50, 51, 52, 53, 54, 55, 56, 57, 58, 59, 60, 61, 62, 63, 64, 65, 66, 67, 68, 69, 70, 71, 72, 73, 74, 75, 76, 77, 78, 79, 80, 81, 82, 83, 84, 85, 86, 87, 88, 89, 90, 91, 92] (by decide +kernel) (by decide +kernel)
set_option maxRecDepth 20000 in
theorem gX10_oneStep_X10_number : GoodIn wsX10_oneStep (wsV RX10 158 RX10 yX10_number wsX10_number) := goodIn_app (goodIn_of _ (by decide +kernel)) ggX10_oneStep_X10_number
set_option maxRecDepth 20000 in
theorem ggX10_oneStep_X10_by : GoodIn wsX10_oneStep wsX10_by := goodIn_r _ [42, 1, 2, 3, 11, 12, 13, 14, 15, 16, 17, 18, 19, 20, 21, 22, 23, 24, 25, 26, 27, 28, 29, 30, 31, 32, 33, 34, 35, 10, 8, 36, 37, 38, 43, 44, 45, 46, 47, 48, 49, 50, 51, 52, 53, 54, 55, 56, 57, 58, 59, 60, 61, 62, 63, 64, 65, 66, 67, 68, 69, 70, 71, 72, 73, 74, 75, 76, 77, 78, 79, 80, 81, 82, 83, 84, 85, 86, 87, 88, 89, 90, 91, 92] (by decide +kernel) (by decide +kernel)
set_option maxRecDepth 20000 in
theorem gX10_oneStep_X10_by : GoodIn wsX10_oneStep (wsV RX10 164 RX10 yX10_by wsX10_by) := goodIn_app (goodIn_of _ (by decide +kernel)) ggX10_oneStep_X10_by
theorem dX10_oneStep_0 : decode cX10_oneStep 0 = .ok (.aload_n 0, 1) := by decide +kernel
theorem dX10_oneStep_1 : decode cX10_oneStep 1 = .ok (.invokevirtual 151, 3) := by decide +kernel
theorem dX10_oneStep_4 : decode cX10_oneStep 4 = .ok (.aload_n 0, 1) := by decide +kernel
theorem dX10_oneStep_5 : decode cX10_oneStep 5 = .ok (.bipush 100, 2) := by decide +kernel
theorem dX10_oneStep_7 : decode cX10_oneStep 7 = .ok (.bipush 114, 2) := by decide +kernel
theorem dX10_oneStep_9 : decode cX10_oneStep 9 = .ok (.bipush 97, 2) := by decide +kernel
theorem dX10_oneStep_11 : decode cX10_oneStep 11 = .ok (.bipush 119, 2) := by decide +kernel
theorem dX10_oneStep_13 : decode cX10_oneStep 13 = .ok (.iconst 0, 1) := by decide +kernel
theorem dX10_oneStep_14 : decode cX10_oneStep 14 = .ok (.iconst 0, 1) := by decide +kernel
theorem dX10_oneStep_15 : decode cX10_oneStep 15 = .ok (.invokevirtual 154, 3) := by decide +kernel
theorem dX10_oneStep_18 : decode cX10_oneStep 18 = .ok (.istore_n 2, 1) := by decide +kernel
theorem dX10_oneStep_19 : decode cX10_oneStep 19 = .ok (.aload_n 0, 1) := by decide +kernel
theorem dX10_oneStep_20 : decode cX10_oneStep 20 = .ok (.bipush 99, 2) := by decide +kernel
theorem dX10_oneStep_22 : decode cX10_oneStep 22 = .ok (.bipush 104, 2) := by decide +kernel
theorem dX10_oneStep_24 : decode cX10_oneStep 24 = .ok (.bipush 111, 2) := by decide +kernel
theorem dX10_oneStep_26 : decode cX10_oneStep 26 = .ok (.bipush 111, 2) := by decide +kernel
theorem dX10_oneStep_28 : decode cX10_oneStep 28 = .ok (.bipush 115, 2) := by decide +kernel
theorem dX10_oneStep_30 : decode cX10_oneStep 30 = .ok (.bipush 101, 2) := by decide +kernel
theorem dX10_oneStep_32 : decode cX10_oneStep 32 = .ok (.invokevirtual 154, 3) := by decide +kernel
theorem dX10_oneStep_35 : decode cX10_oneStep 35 = .ok (.istore_n 3, 1) := by decide +kernel
theorem dX10_oneStep_36 : decode cX10_oneStep 36 = .ok (.aload_n 0, 1) := by decide +kernel
theorem dX10_oneStep_37 : decode cX10_oneStep 37 = .ok (.bipush 101, 2) := by decide +kernel
theorem dX10_oneStep_39 : decode cX10_oneStep 39 = .ok (.bipush 108, 2) := by decide +kernel
theorem dX10_oneStep_41 : decode cX10_oneStep 41 = .ok (.bipush 101, 2) := by decide +kernel
theorem dX10_oneStep_43 : decode cX10_oneStep 43 = .ok (.bipush 99, 2) := by decide +kernel
theorem dX10_oneStep_45 : decode cX10_oneStep 45 = .ok (.bipush 116, 2) := by decide +kernel
theorem dX10_oneStep_47 : decode cX10_oneStep 47 = .ok (.iconst 0, 1) := by decide +kernel
theorem dX10_oneStep_48 : decode cX10_oneStep 48 = .ok (.invokevirtual 154, 3) := by decide +kernel
theorem dX10_oneStep_51 : decode cX10_oneStep 51 = .ok (.istore 4, 2) := by decide +kernel
theorem dX10_oneStep_53 : decode cX10_oneStep 53 = .ok (.iload_n 2, 1) := by decide +kernel
theorem dX10_oneStep_54 : decode cX10_oneStep 54 = .ok (.ifCond .ne 12, 3) := by decide +kernel
theorem dX10_oneStep_57 : decode cX10_oneStep 57 = .ok (.iload_n 3, 1) := by decide +kernel
theorem dX10_oneStep_58 : decode cX10_oneStep 58 = .ok (.ifCond .ne 8, 3) := by decide +kernel
theorem dX10_oneStep_61 : decode cX10_oneStep 61 = .ok (.iload 4, 2) := by decide +kernel
theorem dX10_oneStep_63 : decode cX10_oneStep 63 = .ok (.ifCond .eq 11, 3) := by decide +kernel
theorem dX10_oneStep_66 : decode cX10_oneStep 66 = .ok (.iload_n 1, 1) := by decide +kernel
theorem dX10_oneStep_67 : decode cX10_oneStep 67 = .ok (.ifCond .ne 17, 3) := by decide +kernel
theorem dX10_oneStep_70 : decode cX10_oneStep 70 = .ok (.iload_n 2, 1) := by decide +kernel
theorem dX10_oneStep_71 : decode cX10_oneStep 71 = .ok (.ifCond .ne 13, 3) := by decide +kernel
theorem dX10_oneStep_74 : decode cX10_oneStep 74 = .ok (.aload_n 0, 1) := by decide +kernel
theorem dX10_oneStep_75 : decode cX10_oneStep 75 = .ok (.iconst 0, 1) := by decide +kernel
theorem dX10_oneStep_76 : decode cX10_oneStep 76 = .ok (.aload_n 0, 1) := by decide +kernel
theorem dX10_oneStep_77 : decode cX10_oneStep 77 = .ok (.getfield 135, 3) := by decide +kernel
theorem dX10_oneStep_80 : decode cX10_oneStep 80 = .ok (.invokevirtual 141, 3) := by decide +kernel
theorem dX10_oneStep_83 : decode cX10_oneStep 83 = .ok (.ireturn, 1) := by decide +kernel
theorem dX10_oneStep_84 : decode cX10_oneStep 84 = .ok (.iload_n 1, 1) := by decide +kernel
theorem dX10_oneStep_85 : decode cX10_oneStep 85 = .ok (.bipush 12, 2) := by decide +kernel
theorem dX10_oneStep_87 : decode cX10_oneStep 87 = .ok (.if_icmp .ne 13, 3) := by decide +kernel
theorem dX10_oneStep_90 : decode cX10_oneStep 90 = .ok (.aload_n 0, 1) := by decide +kernel
theorem dX10_oneStep_91 : decode cX10_oneStep 91 = .ok (.iconst 2, 1) := by decide +kernel
theorem dX10_oneStep_92 : decode cX10_oneStep 92 = .ok (.aload_n 0, 1) := by decide +kernel
theorem dX10_oneStep_93 : decode cX10_oneStep 93 = .ok (.getfield 135, 3) := by decide +kernel
theorem dX10_oneStep_96 : decode cX10_oneStep 96 = .ok (.invokevirtual 141, 3) := by decide +kernel
theorem dX10_oneStep_99 : decode cX10_oneStep 99 = .ok (.ireturn, 1) := by decide +kernel
theorem dX10_oneStep_100 : decode cX10_oneStep 100 = .ok (.aload_n 0, 1) := by decide +kernel
theorem dX10_oneStep_101 : decode cX10_oneStep 101 = .ok (.aload_n 0, 1) := by decide +kernel
theorem dX10_oneStep_102 : decode cX10_oneStep 102 = .ok (.getfield 135, 3) := by decide +kernel
theorem dX10_oneStep_105 : decode cX10_oneStep 105 = .ok (.aload_n 0, 1) := by decide +kernel
theorem dX10_oneStep_106 : decode cX10_oneStep 106 = .ok (.getfield 138, 3) := by decide +kernel
theorem dX10_oneStep_109 : decode cX10_oneStep 109 = .ok (.iadd, 1) := by decide +kernel
theorem dX10_oneStep_110 : decode cX10_oneStep 110 = .ok (.putfield 128, 3) := by decide +kernel
theorem dX10_oneStep_113 : decode cX10_oneStep 113 = .ok (.aload_n 0, 1) := by decide +kernel
theorem dX10_oneStep_114 : decode cX10_oneStep 114 = .ok (.getfield 42, 3) := by decide +kernel
theorem dX10_oneStep_117 : decode cX10_oneStep 117 = .ok (.iload_n 1, 1) := by decide +kernel
theorem dX10_oneStep_118 : decode cX10_oneStep 118 = .ok (.iload_n 2, 1) := by decide +kernel
theorem dX10_oneStep_119 : decode cX10_oneStep 119 = .ok (.ifCond .eq 7, 3) := by decide +kernel
theorem dX10_oneStep_122 : decode cX10_oneStep 122 = .ok (.iconst 0, 1) := by decide +kernel
theorem dX10_oneStep_123 : decode cX10_oneStep 123 = .ok (.goto 12, 3) := by decide +kernel
theorem dX10_oneStep_126 : decode cX10_oneStep 126 = .ok (.iload_n 3, 1) := by decide +kernel
theorem dX10_oneStep_127 : decode cX10_oneStep 127 = .ok (.ifCond .eq 7, 3) := by decide +kernel
theorem dX10_oneStep_130 : decode cX10_oneStep 130 = .ok (.iconst 1, 1) := by decide +kernel
theorem dX10_oneStep_131 : decode cX10_oneStep 131 = .ok (.goto 4, 3) := by decide +kernel
theorem dX10_oneStep_134 : decode cX10_oneStep 134 = .ok (.iconst 2, 1) := by decide +kernel
theorem dX10_oneStep_135 : decode cX10_oneStep 135 = .ok (.iastore, 1) := by decide +kernel
theorem dX10_oneStep_136 : decode cX10_oneStep 136 = .ok (.aload_n 0, 1) := by decide +kernel
theorem dX10_oneStep_137 : decode cX10_oneStep 137 = .ok (.getfield 45, 3) := by decide +kernel
theorem dX10_oneStep_140 : decode cX10_oneStep 140 = .ok (.iload_n 1, 1) := by decide +kernel
theorem dX10_oneStep_141 : decode cX10_oneStep 141 = .ok (.iconst 1, 1) := by decide +kernel
theorem dX10_oneStep_142 : decode cX10_oneStep 142 = .ok (.iastore, 1) := by decide +kernel
theorem dX10_oneStep_143 : decode cX10_oneStep 143 = .ok (.aload_n 0, 1) := by decide +kernel
theorem dX10_oneStep_144 : decode cX10_oneStep 144 = .ok (.getfield 48, 3) := by decide +kernel
theorem dX10_oneStep_147 : decode cX10_oneStep 147 = .ok (.iload_n 1, 1) := by decide +kernel
theorem dX10_oneStep_148 : decode cX10_oneStep 148 = .ok (.iconst 0, 1) := by decide +kernel
theorem dX10_oneStep_149 : decode cX10_oneStep 149 = .ok (.iastore, 1) := by decide +kernel
theorem dX10_oneStep_150 : decode cX10_oneStep 150 = .ok (.aload_n 0, 1) := by decide +kernel
theorem dX10_oneStep_151 : decode cX10_oneStep 151 = .ok (.getfield 51, 3) := by decide +kernel
theorem dX10_oneStep_154 : decode cX10_oneStep 154 = .ok (.iload_n 1, 1) := by decide +kernel
theorem dX10_oneStep_155 : decode cX10_oneStep 155 = .ok (.iconst 0, 1) := by decide +kernel
theorem dX10_oneStep_156 : decode cX10_oneStep 156 = .ok (.iastore, 1) := by decide +kernel
theorem dX10_oneStep_157 : decode cX10_oneStep 157 = .ok (.iload 4, 2) := by decide +kernel
theorem dX10_oneStep_159 : decode cX10_oneStep 159 = .ok (.ifCond .ne 53, 3) := by decide +kernel
theorem dX10_oneStep_162 : decode cX10_oneStep 162 = .ok (.aload_n 0, 1) := by decide +kernel
theorem dX10_oneStep_163 : decode cX10_oneStep 163 = .ok (.bipush 40, 2) := by decide +kernel
theorem dX10_oneStep_165 : decode cX10_oneStep 165 = .ok (.invokevirtual 158, 3) := by decide +kernel
theorem dX10_oneStep_168 : decode cX10_oneStep 168 = .ok (.ifCond .ne 5, 3) := by decide +kernel
theorem dX10_oneStep_171 : decode cX10_oneStep 171 = .ok (.iconst 0, 1) := by decide +kernel
theorem dX10_oneStep_172 : decode cX10_oneStep 172 = .ok (.ireturn, 1) := by decide +kernel
theorem dX10_oneStep_173 : decode cX10_oneStep 173 = .ok (.iload_n 2, 1) := by decide +kernel
theorem dX10_oneStep_174 : decode cX10_oneStep 174 = .ok (.ifCond .eq 28, 3) := by decide +kernel
theorem dX10_oneStep_177 : decode cX10_oneStep 177 = .ok (.iload_n 1, 1) := by decide +kernel
theorem dX10_oneStep_178 : decode cX10_oneStep 178 = .ok (.ifCond .le 24, 3) := by decide +kernel
theorem dX10_oneStep_181 : decode cX10_oneStep 181 = .ok (.aload_n 0, 1) := by decide +kernel
theorem dX10_oneStep_182 : decode cX10_oneStep 182 = .ok (.getfield 148, 3) := by decide +kernel
theorem dX10_oneStep_185 : decode cX10_oneStep 185 = .ok (.aload_n 0, 1) := by decide +kernel
theorem dX10_oneStep_186 : decode cX10_oneStep 186 = .ok (.getfield 161, 3) := by decide +kernel
theorem dX10_oneStep_189 : decode cX10_oneStep 189 = .ok (.if_icmp .le 13, 3) := by decide +kernel
theorem dX10_oneStep_192 : decode cX10_oneStep 192 = .ok (.aload_n 0, 1) := by decide +kernel
theorem dX10_oneStep_193 : decode cX10_oneStep 193 = .ok (.iconst 3, 1) := by decide +kernel
theorem dX10_oneStep_194 : decode cX10_oneStep 194 = .ok (.aload_n 0, 1) := by decide +kernel
theorem dX10_oneStep_195 : decode cX10_oneStep 195 = .ok (.getfield 145, 3) := by decide +kernel
theorem dX10_oneStep_198 : decode cX10_oneStep 198 = .ok (.invokevirtual 141, 3) := by decide +kernel
theorem dX10_oneStep_201 : decode cX10_oneStep 201 = .ok (.ireturn, 1) := by decide +kernel
theorem dX10_oneStep_202 : decode cX10_oneStep 202 = .ok (.aload_n 0, 1) := by decide +kernel
theorem dX10_oneStep_203 : decode cX10_oneStep 203 = .ok (.getfield 45, 3) := by decide +kernel
theorem dX10_oneStep_206 : decode cX10_oneStep 206 = .ok (.iload_n 1, 1) := by decide +kernel
theorem dX10_oneStep_207 : decode cX10_oneStep 207 = .ok (.aload_n 0, 1) := by decide +kernel
theorem dX10_oneStep_208 : decode cX10_oneStep 208 = .ok (.getfield 148, 3) := by decide +kernel
theorem dX10_oneStep_211 : decode cX10_oneStep 211 = .ok (.iastore, 1) := by decide +kernel
theorem dX10_oneStep_212 : decode cX10_oneStep 212 = .ok (.iload_n 2, 1) := by decide +kernel
theorem dX10_oneStep_213 : decode cX10_oneStep 213 = .ok (.ifCond .eq 13, 3) := by decide +kernel
theorem dX10_oneStep_216 : decode cX10_oneStep 216 = .ok (.aload_n 0, 1) := by decide +kernel
theorem dX10_oneStep_217 : decode cX10_oneStep 217 = .ok (.aload_n 0, 1) := by decide +kernel
theorem dX10_oneStep_218 : decode cX10_oneStep 218 = .ok (.getfield 148, 3) := by decide +kernel
theorem dX10_oneStep_221 : decode cX10_oneStep 221 = .ok (.putfield 161, 3) := by decide +kernel
theorem dX10_oneStep_224 : decode cX10_oneStep 224 = .ok (.iconst 1, 1) := by decide +kernel
theorem dX10_oneStep_225 : decode cX10_oneStep 225 = .ok (.ireturn, 1) := by decide +kernel
theorem dX10_oneStep_226 : decode cX10_oneStep 226 = .ok (.aload_n 0, 1) := by decide +kernel
theorem dX10_oneStep_227 : decode cX10_oneStep 227 = .ok (.invokevirtual 164, 3) := by decide +kernel
theorem dX10_oneStep_230 : decode cX10_oneStep 230 = .ok (.ifCond .ne 5, 3) := by decide +kernel
theorem dX10_oneStep_233 : decode cX10_oneStep 233 = .ok (.iconst 0, 1) := by decide +kernel
theorem dX10_oneStep_234 : decode cX10_oneStep 234 = .ok (.ireturn, 1) := by decide +kernel
theorem dX10_oneStep_235 : decode cX10_oneStep 235 = .ok (.aload_n 0, 1) := by decide +kernel
theorem dX10_oneStep_236 : decode cX10_oneStep 236 = .ok (.getfield 148, 3) := by decide +kernel
theorem dX10_oneStep_239 : decode cX10_oneStep 239 = .ok (.aload_n 0, 1) := by decide +kernel
theorem dX10_oneStep_240 : decode cX10_oneStep 240 = .ok (.getfield 161, 3) := by decide +kernel
theorem dX10_oneStep_243 : decode cX10_oneStep 243 = .ok (.if_icmp .le 13, 3) := by decide +kernel
theorem dX10_oneStep_246 : decode cX10_oneStep 246 = .ok (.aload_n 0, 1) := by decide +kernel
theorem dX10_oneStep_247 : decode cX10_oneStep 247 = .ok (.iconst 3, 1) := by decide +kernel
theorem dX10_oneStep_248 : decode cX10_oneStep 248 = .ok (.aload_n 0, 1) := by decide +kernel
theorem dX10_oneStep_249 : decode cX10_oneStep 249 = .ok (.getfield 145, 3) := by decide +kernel
theorem dX10_oneStep_252 : decode cX10_oneStep 252 = .ok (.invokevirtual 141, 3) := by decide +kernel
theorem dX10_oneStep_255 : decode cX10_oneStep 255 = .ok (.ireturn, 1) := by decide +kernel
theorem dX10_oneStep_256 : decode cX10_oneStep 256 = .ok (.aload_n 0, 1) := by decide +kernel
theorem dX10_oneStep_257 : decode cX10_oneStep 257 = .ok (.getfield 48, 3) := by decide +kernel
theorem dX10_oneStep_260 : decode cX10_oneStep 260 = .ok (.iload_n 1, 1) := by decide +kernel
theorem dX10_oneStep_261 : decode cX10_oneStep 261 = .ok (.aload_n 0, 1) := by decide +kernel
theorem dX10_oneStep_262 : decode cX10_oneStep 262 = .ok (.getfield 148, 3) := by decide +kernel
theorem dX10_oneStep_265 : decode cX10_oneStep 265 = .ok (.iastore, 1) := by decide +kernel
theorem dX10_oneStep_266 : decode cX10_oneStep 266 = .ok (.iload 4, 2) := by decide +kernel
theorem dX10_oneStep_268 : decode cX10_oneStep 268 = .ok (.ifCond .eq 5, 3) := by decide +kernel
theorem dX10_oneStep_271 : decode cX10_oneStep 271 = .ok (.iconst 1, 1) := by decide +kernel
theorem dX10_oneStep_272 : decode cX10_oneStep 272 = .ok (.ireturn, 1) := by decide +kernel
theorem dX10_oneStep_273 : decode cX10_oneStep 273 = .ok (.aload_n 0, 1) := by decide +kernel
theorem dX10_oneStep_274 : decode cX10_oneStep 274 = .ok (.invokevirtual 151, 3) := by decide +kernel
theorem dX10_oneStep_277 : decode cX10_oneStep 277 = .ok (.aload_n 0, 1) := by decide +kernel
theorem dX10_oneStep_278 : decode cX10_oneStep 278 = .ok (.bipush 104, 2) := by decide +kernel
theorem dX10_oneStep_280 : decode cX10_oneStep 280 = .ok (.bipush 111, 2) := by decide +kernel
theorem dX10_oneStep_282 : decode cX10_oneStep 282 = .ok (.bipush 117, 2) := by decide +kernel
theorem dX10_oneStep_284 : decode cX10_oneStep 284 = .ok (.bipush 115, 2) := by decide +kernel
theorem dX10_oneStep_286 : decode cX10_oneStep 286 = .ok (.bipush 101, 2) := by decide +kernel
theorem dX10_oneStep_288 : decode cX10_oneStep 288 = .ok (.iconst 0, 1) := by decide +kernel
theorem dX10_oneStep_289 : decode cX10_oneStep 289 = .ok (.invokevirtual 154, 3) := by decide +kernel
theorem dX10_oneStep_292 : decode cX10_oneStep 292 = .ok (.ifCond .eq 37, 3) := by decide +kernel
theorem dX10_oneStep_295 : decode cX10_oneStep 295 = .ok (.aload_n 0, 1) := by decide +kernel
theorem dX10_oneStep_296 : decode cX10_oneStep 296 = .ok (.aload_n 0, 1) := by decide +kernel
theorem dX10_oneStep_297 : decode cX10_oneStep 297 = .ok (.getfield 135, 3) := by decide +kernel
theorem dX10_oneStep_300 : decode cX10_oneStep 300 = .ok (.aload_n 0, 1) := by decide +kernel
theorem dX10_oneStep_301 : decode cX10_oneStep 301 = .ok (.getfield 138, 3) := by decide +kernel
theorem dX10_oneStep_304 : decode cX10_oneStep 304 = .ok (.iadd, 1) := by decide +kernel
theorem dX10_oneStep_305 : decode cX10_oneStep 305 = .ok (.putfield 128, 3) := by decide +kernel
theorem dX10_oneStep_308 : decode cX10_oneStep 308 = .ok (.aload_n 0, 1) := by decide +kernel
theorem dX10_oneStep_309 : decode cX10_oneStep 309 = .ok (.bipush 9, 2) := by decide +kernel
theorem dX10_oneStep_311 : decode cX10_oneStep 311 = .ok (.invokevirtual 158, 3) := by decide +kernel
theorem dX10_oneStep_314 : decode cX10_oneStep 314 = .ok (.ifCond .ne 5, 3) := by decide +kernel
theorem dX10_oneStep_317 : decode cX10_oneStep 317 = .ok (.iconst 0, 1) := by decide +kernel
theorem dX10_oneStep_318 : decode cX10_oneStep 318 = .ok (.ireturn, 1) := by decide +kernel
theorem dX10_oneStep_319 : decode cX10_oneStep 319 = .ok (.aload_n 0, 1) := by decide +kernel
theorem dX10_oneStep_320 : decode cX10_oneStep 320 = .ok (.getfield 51, 3) := by decide +kernel
theorem dX10_oneStep_323 : decode cX10_oneStep 323 = .ok (.iload_n 1, 1) := by decide +kernel
theorem dX10_oneStep_324 : decode cX10_oneStep 324 = .ok (.aload_n 0, 1) := by decide +kernel
theorem dX10_oneStep_325 : decode cX10_oneStep 325 = .ok (.getfield 148, 3) := by decide +kernel
theorem dX10_oneStep_328 : decode cX10_oneStep 328 = .ok (.iastore, 1) := by decide +kernel
theorem dX10_oneStep_329 : decode cX10_oneStep 329 = .ok (.aload_n 0, 1) := by decide +kernel
theorem dX10_oneStep_330 : decode cX10_oneStep 330 = .ok (.aload_n 0, 1) := by decide +kernel
theorem dX10_oneStep_331 : decode cX10_oneStep 331 = .ok (.getfield 45, 3) := by decide +kernel
theorem dX10_oneStep_334 : decode cX10_oneStep 334 = .ok (.iload_n 1, 1) := by decide +kernel
theorem dX10_oneStep_335 : decode cX10_oneStep 335 = .ok (.iaload, 1) := by decide +kernel
theorem dX10_oneStep_336 : decode cX10_oneStep 336 = .ok (.putfield 161, 3) := by decide +kernel
theorem dX10_oneStep_339 : decode cX10_oneStep 339 = .ok (.iconst 1, 1) := by decide +kernel
theorem dX10_oneStep_340 : decode cX10_oneStep 340 = .ok (.ireturn, 1) := by decide +kernel
set_option maxRecDepth 20000 in
theorem ggX10_procedure_X10_oneStep : GoodIn wsX10_procedure wsX10_oneStep := goodIn_r _ [20, 21, 22, 1, 4, 9, 11, 13, 23, 3, 24, 25, 26, 27, 19, 28, 5, 29, 30, 31, 32, 33, 34, 35, 36, 37, 38, 39, 40, 41, 42, 2, 43, 44, 45, 46, 47, 48, 49, 50, 51, 52, 53, 62, 63, 64, 65, 66, 67, 68, 69, 70, 71, 72, 73, 74, 75, 76, 77, 78, 79, 80, 81, 82, 83, 84, 85, 86, 87, 88, 89, 90, 91, 92, 93, 94, 95, 96, 97, 98, 99, 100, 101, 102, 103, 104, 105, 106, 107, 108, 109, 110, 111] (by decide +kernel) (by decide +kernel)
set_option maxRecDepth 20000 in
theorem gX10_procedure_X10_oneStep : GoodIn wsX10_procedure (wsV RX10 168 RX10 yX10_oneStep wsX10_oneStep) := goodIn_app (goodIn_of _ (by decide +kernel)) ggX10_procedure_X10_oneStep
set_option maxRecDepth 20000 in
theorem ggX10_procedure_X10_see : GoodIn wsX10_procedure wsX10_see := goodIn_r _ [33, 1, 5, 29, 62, 63, 64, 65, 66, 67, 68, 69, 70, 71, 72, 73, 74, 75, 76, 77, 78, 79, 80, 81, 82, 83, 84, 85, 86, 87, 88, 89, 90, 91, 92, 93, 94, 95, 96, 97, 98, 99, 100, 101, 102, 103, 104, 105, 106, 107, 108, 109, 110, 111] (by decide +kernel) (by decide +kernel)
set_option maxRecDepth 20000 in
theorem gX10_procedure_X10_see : GoodIn wsX10_procedure (wsV RX10 131 RX10 yX10_see wsX10_see) := goodIn_app (goodIn_of _ (by decide +kernel)) ggX10_procedure_X10_see
set_option maxRecDepth 20000 in
theorem ggX10_procedure_X10_fails : GoodIn wsX10_procedure wsX10_fails := goodIn_r _ [42, 2, 62, 63, 64, 65, 66, 67, 68, 69, 70, 71, 72, 73, 74, 75, 76, 77, 78, 79, 80, 81, 82, 83, 84, 85, 86, 87, 88, 89, 90, 91, 92, 93, 94, 95, 96, 97, 98, 99, 100, 101, 102, 103, 104, 105, 106, 107, 108, 109, 110, 111] (by decide +kernel) (by decide +kernel)
set_option maxRecDepth 20000 in
theorem gX10_procedure_X10_fails : GoodIn wsX10_procedure (wsV RX10 141 RX10 yX10_fails wsX10_fails) := goodIn_app (goodIn_of _ (by decide +kernel)) ggX10_procedure_X10_fails
set_option maxRecDepth 20000 in
theorem ggX10_procedure_X10_begins : GoodIn wsX10_procedure wsX10_begins := goodIn_r _ [57, 14, 58, 59, 60, 61, 62, 63, 64, 65, 66, 67, 68, 69, 70, 71, 72, 73, 74, 75, 76, 77, 78, 79, 80, 81, 82, 83, 84, 85, 86, 87, 88, 89, 90, 91, 92, 93, 94, 95, 96, 97, 98, 99, 100, 101, 102, 103, 104, 105, 106, 107, 108, 109, 110, 111] (by decide +kernel) (by decide +kernel)
set_option maxRecDepth 20000 in
theorem gX10_procedure_X10_begins : GoodIn wsX10_procedure (wsV RX10 108 RX10 yX10_begins wsX10_begins) := goodIn_app (goodIn_of _ (by decide +kernel)) ggX10_procedure_X10_begins
theorem dX10_procedure_0 : decode cX10_procedure 0 = .ok (.aload_n 0, 1) := by decide +kernel
theorem dX10_procedure_1 : decode cX10_procedure 1 = .ok (.iconst 0, 1) := by decide +kernel
theorem dX10_procedure_2 : decode cX10_procedure 2 = .ok (.putfield 128, 3) := by decide +kernel
theorem dX10_procedure_5 : decode cX10_procedure 5 = .ok (.aload_n 0, 1) := by decide +kernel
theorem dX10_procedure_6 : decode cX10_procedure 6 = .ok (.iconst 0, 1) := by decide +kernel
theorem dX10_procedure_7 : decode cX10_procedure 7 = .ok (.putfield 125, 3) := by decide +kernel
theorem dX10_procedure_10 : decode cX10_procedure 10 = .ok (.aload_n 0, 1) := by decide +kernel
theorem dX10_procedure_11 : decode cX10_procedure 11 = .ok (.bipush 41, 2) := by decide +kernel
theorem dX10_procedure_13 : decode cX10_procedure 13 = .ok (.putfield 161, 3) := by decide +kernel
theorem dX10_procedure_16 : decode cX10_procedure 16 = .ok (.iconst 0, 1) := by decide +kernel
theorem dX10_procedure_17 : decode cX10_procedure 17 = .ok (.istore_n 1, 1) := by decide +kernel
theorem dX10_procedure_18 : decode cX10_procedure 18 = .ok (.iconst 1, 1) := by decide +kernel
theorem dX10_procedure_19 : decode cX10_procedure 19 = .ok (.istore_n 2, 1) := by decide +kernel
theorem dX10_procedure_20 : decode cX10_procedure 20 = .ok (.iconst 1, 1) := by decide +kernel
theorem dX10_procedure_21 : decode cX10_procedure 21 = .ok (.istore_n 3, 1) := by decide +kernel
theorem dX10_procedure_22 : decode cX10_procedure 22 = .ok (.iload_n 2, 1) := by decide +kernel
theorem dX10_procedure_23 : decode cX10_procedure 23 = .ok (.ifCond .eq 113, 3) := by decide +kernel
theorem dX10_procedure_26 : decode cX10_procedure 26 = .ok (.iload_n 3, 1) := by decide +kernel
theorem dX10_procedure_27 : decode cX10_procedure 27 = .ok (.ifCond .eq 109, 3) := by decide +kernel
theorem dX10_procedure_30 : decode cX10_procedure 30 = .ok (.aload_n 0, 1) := by decide +kernel
theorem dX10_procedure_31 : decode cX10_procedure 31 = .ok (.iload_n 1, 1) := by decide +kernel
theorem dX10_procedure_32 : decode cX10_procedure 32 = .ok (.invokevirtual 168, 3) := by decide +kernel
theorem dX10_procedure_35 : decode cX10_procedure 35 = .ok (.istore_n 2, 1) := by decide +kernel
theorem dX10_procedure_36 : decode cX10_procedure 36 = .ok (.iload_n 2, 1) := by decide +kernel
theorem dX10_procedure_37 : decode cX10_procedure 37 = .ok (.ifCond .ne 6, 3) := by decide +kernel
theorem dX10_procedure_40 : decode cX10_procedure 40 = .ok (.goto 96, 3) := by decide +kernel
theorem dX10_procedure_43 : decode cX10_procedure 43 = .ok (.aload_n 0, 1) := by decide +kernel
theorem dX10_procedure_44 : decode cX10_procedure 44 = .ok (.getfield 42, 3) := by decide +kernel
theorem dX10_procedure_47 : decode cX10_procedure 47 = .ok (.iload_n 1, 1) := by decide +kernel
theorem dX10_procedure_48 : decode cX10_procedure 48 = .ok (.iaload, 1) := by decide +kernel
theorem dX10_procedure_49 : decode cX10_procedure 49 = .ok (.iconst 2, 1) := by decide +kernel
theorem dX10_procedure_50 : decode cX10_procedure 50 = .ok (.if_icmp .ne 7, 3) := by decide +kernel
theorem dX10_procedure_53 : decode cX10_procedure 53 = .ok (.iconst 1, 1) := by decide +kernel
theorem dX10_procedure_54 : decode cX10_procedure 54 = .ok (.goto 4, 3) := by decide +kernel
theorem dX10_procedure_57 : decode cX10_procedure 57 = .ok (.iconst 0, 1) := by decide +kernel
theorem dX10_procedure_58 : decode cX10_procedure 58 = .ok (.istore 4, 2) := by decide +kernel
theorem dX10_procedure_60 : decode cX10_procedure 60 = .ok (.iinc 1 1, 3) := by decide +kernel
theorem dX10_procedure_63 : decode cX10_procedure 63 = .ok (.aload_n 0, 1) := by decide +kernel
theorem dX10_procedure_64 : decode cX10_procedure 64 = .ok (.invokevirtual 131, 3) := by decide +kernel
theorem dX10_procedure_67 : decode cX10_procedure 67 = .ok (.istore 5, 2) := by decide +kernel
theorem dX10_procedure_69 : decode cX10_procedure 69 = .ok (.iload 4, 2) := by decide +kernel
theorem dX10_procedure_71 : decode cX10_procedure 71 = .ok (.ifCond .eq 32, 3) := by decide +kernel
theorem dX10_procedure_74 : decode cX10_procedure 74 = .ok (.iload 5, 2) := by decide +kernel
theorem dX10_procedure_76 : decode cX10_procedure 76 = .ok (.iconst (-1), 1) := by decide +kernel
theorem dX10_procedure_77 : decode cX10_procedure 77 = .ok (.if_icmp .eq 15, 3) := by decide +kernel
theorem dX10_procedure_80 : decode cX10_procedure 80 = .ok (.aload_n 0, 1) := by decide +kernel
theorem dX10_procedure_81 : decode cX10_procedure 81 = .ok (.iconst 0, 1) := by decide +kernel
theorem dX10_procedure_82 : decode cX10_procedure 82 = .ok (.aload_n 0, 1) := by decide +kernel
theorem dX10_procedure_83 : decode cX10_procedure 83 = .ok (.getfield 128, 3) := by decide +kernel
theorem dX10_procedure_86 : decode cX10_procedure 86 = .ok (.invokevirtual 141, 3) := by decide +kernel
theorem dX10_procedure_89 : decode cX10_procedure 89 = .ok (.ifCond .eq 7, 3) := by decide +kernel
theorem dX10_procedure_92 : decode cX10_procedure 92 = .ok (.iconst 1, 1) := by decide +kernel
theorem dX10_procedure_93 : decode cX10_procedure 93 = .ok (.goto 4, 3) := by decide +kernel
theorem dX10_procedure_96 : decode cX10_procedure 96 = .ok (.iconst 0, 1) := by decide +kernel
theorem dX10_procedure_97 : decode cX10_procedure 97 = .ok (.istore_n 2, 1) := by decide +kernel
theorem dX10_procedure_98 : decode cX10_procedure 98 = .ok (.iconst 0, 1) := by decide +kernel
theorem dX10_procedure_99 : decode cX10_procedure 99 = .ok (.istore_n 3, 1) := by decide +kernel
theorem dX10_procedure_100 : decode cX10_procedure 100 = .ok (.goto 33, 3) := by decide +kernel
theorem dX10_procedure_103 : decode cX10_procedure 103 = .ok (.iload 5, 2) := by decide +kernel
theorem dX10_procedure_105 : decode cX10_procedure 105 = .ok (.bipush 59, 2) := by decide +kernel
theorem dX10_procedure_107 : decode cX10_procedure 107 = .ok (.if_icmp .eq 16, 3) := by decide +kernel
theorem dX10_procedure_110 : decode cX10_procedure 110 = .ok (.aload_n 0, 1) := by decide +kernel
theorem dX10_procedure_111 : decode cX10_procedure 111 = .ok (.iconst 0, 1) := by decide +kernel
theorem dX10_procedure_112 : decode cX10_procedure 112 = .ok (.aload_n 0, 1) := by decide +kernel
theorem dX10_procedure_113 : decode cX10_procedure 113 = .ok (.getfield 128, 3) := by decide +kernel
theorem dX10_procedure_116 : decode cX10_procedure 116 = .ok (.invokevirtual 141, 3) := by decide +kernel
theorem dX10_procedure_119 : decode cX10_procedure 119 = .ok (.istore_n 2, 1) := by decide +kernel
theorem dX10_procedure_120 : decode cX10_procedure 120 = .ok (.goto 13, 3) := by decide +kernel
theorem dX10_procedure_123 : decode cX10_procedure 123 = .ok (.aload_n 0, 1) := by decide +kernel
theorem dX10_procedure_124 : decode cX10_procedure 124 = .ok (.dup, 1) := by decide +kernel
theorem dX10_procedure_125 : decode cX10_procedure 125 = .ok (.getfield 128, 3) := by decide +kernel
theorem dX10_procedure_128 : decode cX10_procedure 128 = .ok (.iconst 1, 1) := by decide +kernel
theorem dX10_procedure_129 : decode cX10_procedure 129 = .ok (.iadd, 1) := by decide +kernel
theorem dX10_procedure_130 : decode cX10_procedure 130 = .ok (.putfield 128, 3) := by decide +kernel
theorem dX10_procedure_133 : decode cX10_procedure 133 = .ok (.goto (-111), 3) := by decide +kernel
theorem dX10_procedure_136 : decode cX10_procedure 136 = .ok (.aload_n 0, 1) := by decide +kernel
theorem dX10_procedure_137 : decode cX10_procedure 137 = .ok (.iconst 0, 1) := by decide +kernel
theorem dX10_procedure_138 : decode cX10_procedure 138 = .ok (.putfield 118, 3) := by decide +kernel
theorem dX10_procedure_141 : decode cX10_procedure 141 = .ok (.iload_n 2, 1) := by decide +kernel
theorem dX10_procedure_142 : decode cX10_procedure 142 = .ok (.ifCond .ne 11, 3) := by decide +kernel
theorem dX10_procedure_145 : decode cX10_procedure 145 = .ok (.bipush (-2), 2) := by decide +kernel
theorem dX10_procedure_147 : decode cX10_procedure 147 = .ok (.aload_n 0, 1) := by decide +kernel
theorem dX10_procedure_148 : decode cX10_procedure 148 = .ok (.getfield 125, 3) := by decide +kernel
theorem dX10_procedure_151 : decode cX10_procedure 151 = .ok (.isub, 1) := by decide +kernel
theorem dX10_procedure_152 : decode cX10_procedure 152 = .ok (.ireturn, 1) := by decide +kernel
theorem dX10_procedure_153 : decode cX10_procedure 153 = .ok (.aload_n 0, 1) := by decide +kernel
theorem dX10_procedure_154 : decode cX10_procedure 154 = .ok (.iload_n 1, 1) := by decide +kernel
theorem dX10_procedure_155 : decode cX10_procedure 155 = .ok (.putfield 171, 3) := by decide +kernel
theorem dX10_procedure_158 : decode cX10_procedure 158 = .ok (.iconst 0, 1) := by decide +kernel
theorem dX10_procedure_159 : decode cX10_procedure 159 = .ok (.istore 4, 2) := by decide +kernel
theorem dX10_procedure_161 : decode cX10_procedure 161 = .ok (.iload 4, 2) := by decide +kernel
theorem dX10_procedure_163 : decode cX10_procedure 163 = .ok (.iload_n 1, 1) := by decide +kernel
theorem dX10_procedure_164 : decode cX10_procedure 164 = .ok (.if_icmp .ge 65, 3) := by decide +kernel
theorem dX10_procedure_167 : decode cX10_procedure 167 = .ok (.aload_n 0, 1) := by decide +kernel
theorem dX10_procedure_168 : decode cX10_procedure 168 = .ok (.getfield 30, 3) := by decide +kernel
theorem dX10_procedure_171 : decode cX10_procedure 171 = .ok (.iload 4, 2) := by decide +kernel
theorem dX10_procedure_173 : decode cX10_procedure 173 = .ok (.aload_n 0, 1) := by decide +kernel
theorem dX10_procedure_174 : decode cX10_procedure 174 = .ok (.getfield 42, 3) := by decide +kernel
theorem dX10_procedure_177 : decode cX10_procedure 177 = .ok (.iload 4, 2) := by decide +kernel
theorem dX10_procedure_179 : decode cX10_procedure 179 = .ok (.iaload, 1) := by decide +kernel
theorem dX10_procedure_180 : decode cX10_procedure 180 = .ok (.iastore, 1) := by decide +kernel
theorem dX10_procedure_181 : decode cX10_procedure 181 = .ok (.aload_n 0, 1) := by decide +kernel
theorem dX10_procedure_182 : decode cX10_procedure 182 = .ok (.getfield 33, 3) := by decide +kernel
theorem dX10_procedure_185 : decode cX10_procedure 185 = .ok (.iload 4, 2) := by decide +kernel
theorem dX10_procedure_187 : decode cX10_procedure 187 = .ok (.aload_n 0, 1) := by decide +kernel
theorem dX10_procedure_188 : decode cX10_procedure 188 = .ok (.getfield 45, 3) := by decide +kernel
theorem dX10_procedure_191 : decode cX10_procedure 191 = .ok (.iload 4, 2) := by decide +kernel
theorem dX10_procedure_193 : decode cX10_procedure 193 = .ok (.iaload, 1) := by decide +kernel
theorem dX10_procedure_194 : decode cX10_procedure 194 = .ok (.iastore, 1) := by decide +kernel
theorem dX10_procedure_195 : decode cX10_procedure 195 = .ok (.aload_n 0, 1) := by decide +kernel
theorem dX10_procedure_196 : decode cX10_procedure 196 = .ok (.getfield 36, 3) := by decide +kernel
theorem dX10_procedure_199 : decode cX10_procedure 199 = .ok (.iload 4, 2) := by decide +kernel
theorem dX10_procedure_201 : decode cX10_procedure 201 = .ok (.aload_n 0, 1) := by decide +kernel
theorem dX10_procedure_202 : decode cX10_procedure 202 = .ok (.getfield 48, 3) := by decide +kernel
theorem dX10_procedure_205 : decode cX10_procedure 205 = .ok (.iload 4, 2) := by decide +kernel
theorem dX10_procedure_207 : decode cX10_procedure 207 = .ok (.iaload, 1) := by decide +kernel
theorem dX10_procedure_208 : decode cX10_procedure 208 = .ok (.iastore, 1) := by decide +kernel
theorem dX10_procedure_209 : decode cX10_procedure 209 = .ok (.aload_n 0, 1) := by decide +kernel
theorem dX10_procedure_210 : decode cX10_procedure 210 = .ok (.getfield 39, 3) := by decide +kernel
theorem dX10_procedure_213 : decode cX10_procedure 213 = .ok (.iload 4, 2) := by decide +kernel
theorem dX10_procedure_215 : decode cX10_procedure 215 = .ok (.aload_n 0, 1) := by decide +kernel
theorem dX10_procedure_216 : decode cX10_procedure 216 = .ok (.getfield 51, 3) := by decide +kernel
theorem dX10_procedure_219 : decode cX10_procedure 219 = .ok (.iload 4, 2) := by decide +kernel
theorem dX10_procedure_221 : decode cX10_procedure 221 = .ok (.iaload, 1) := by decide +kernel
theorem dX10_procedure_222 : decode cX10_procedure 222 = .ok (.iastore, 1) := by decide +kernel
theorem dX10_procedure_223 : decode cX10_procedure 223 = .ok (.iinc 4 1, 3) := by decide +kernel
theorem dX10_procedure_226 : decode cX10_procedure 226 = .ok (.goto (-65), 3) := by decide +kernel
theorem dX10_procedure_229 : decode cX10_procedure 229 = .ok (.aload_n 0, 1) := by decide +kernel
theorem dX10_procedure_230 : decode cX10_procedure 230 = .ok (.iconst 0, 1) := by decide +kernel
theorem dX10_procedure_231 : decode cX10_procedure 231 = .ok (.putfield 105, 3) := by decide +kernel
theorem dX10_procedure_234 : decode cX10_procedure 234 = .ok (.aload_n 0, 1) := by decide +kernel
theorem dX10_procedure_235 : decode cX10_procedure 235 = .ok (.iconst (-1), 1) := by decide +kernel
theorem dX10_procedure_236 : decode cX10_procedure 236 = .ok (.putfield 60, 3) := by decide +kernel
theorem dX10_procedure_239 : decode cX10_procedure 239 = .ok (.aload_n 0, 1) := by decide +kernel
theorem dX10_procedure_240 : decode cX10_procedure 240 = .ok (.invokevirtual 108, 3) := by decide +kernel
theorem dX10_procedure_243 : decode cX10_procedure 243 = .ok (.aload_n 0, 1) := by decide +kernel
theorem dX10_procedure_244 : decode cX10_procedure 244 = .ok (.getfield 171, 3) := by decide +kernel
theorem dX10_procedure_247 : decode cX10_procedure 247 = .ok (.ireturn, 1) := by decide +kernel
set_option maxRecDepth 20000 in
theorem ggX10_lot_X10_in : GoodIn wsX10_lot wsX10_in := goodIn_r _ [6] (by decide +kernel) (by decide +kernel)
set_option maxRecDepth 20000 in
theorem gX10_lot_X10_in : GoodIn wsX10_lot (va_wsS RX10 101 yX10_in wsX10_in) := goodIn_app (goodIn_of _ (by decide +kernel)) ggX10_lot_X10_in
theorem dX10_lot_0 : decode cX10_lot 0 = .ok (.aload_n 0, 1) := by decide +kernel
theorem dX10_lot_1 : decode cX10_lot 1 = .ok (.getfield 174, 3) := by decide +kernel
theorem dX10_lot_4 : decode cX10_lot 4 = .ok (.sipush 500, 3) := by decide +kernel
theorem dX10_lot_7 : decode cX10_lot 7 = .ok (.if_icmp .eq 14, 3) := by decide +kernel
theorem dX10_lot_10 : decode cX10_lot 10 = .ok (.iload_n 1, 1) := by decide +kernel
theorem dX10_lot_11 : decode cX10_lot 11 = .ok (.iconst 0, 1) := by decide +kernel
theorem dX10_lot_12 : decode cX10_lot 12 = .ok (.sipush 9999, 3) := by decide +kernel
theorem dX10_lot_15 : decode cX10_lot 15 = .ok (.invokestatic 101, 3) := by decide +kernel
theorem dX10_lot_18 : decode cX10_lot 18 = .ok (.ifCond .ne 5, 3) := by decide +kernel
theorem dX10_lot_21 : decode cX10_lot 21 = .ok (.iconst (-1), 1) := by decide +kernel
theorem dX10_lot_22 : decode cX10_lot 22 = .ok (.ireturn, 1) := by decide +kernel
theorem dX10_lot_23 : decode cX10_lot 23 = .ok (.aload_n 0, 1) := by decide +kernel
theorem dX10_lot_24 : decode cX10_lot 24 = .ok (.getfield 64, 3) := by decide +kernel
theorem dX10_lot_27 : decode cX10_lot 27 = .ok (.aload_n 0, 1) := by decide +kernel
theorem dX10_lot_28 : decode cX10_lot 28 = .ok (.getfield 174, 3) := by decide +kernel
theorem dX10_lot_31 : decode cX10_lot 31 = .ok (.iload_n 1, 1) := by decide +kernel
theorem dX10_lot_32 : decode cX10_lot 32 = .ok (.iastore, 1) := by decide +kernel
theorem dX10_lot_33 : decode cX10_lot 33 = .ok (.aload_n 0, 1) := by decide +kernel
theorem dX10_lot_34 : decode cX10_lot 34 = .ok (.dup, 1) := by decide +kernel
theorem dX10_lot_35 : decode cX10_lot 35 = .ok (.getfield 174, 3) := by decide +kernel
theorem dX10_lot_38 : decode cX10_lot 38 = .ok (.iconst 1, 1) := by decide +kernel
theorem dX10_lot_39 : decode cX10_lot 39 = .ok (.iadd, 1) := by decide +kernel
theorem dX10_lot_40 : decode cX10_lot 40 = .ok (.putfield 174, 3) := by decide +kernel
theorem dX10_lot_43 : decode cX10_lot 43 = .ok (.aload_n 0, 1) := by decide +kernel
theorem dX10_lot_44 : decode cX10_lot 44 = .ok (.getfield 174, 3) := by decide +kernel
theorem dX10_lot_47 : decode cX10_lot 47 = .ok (.ireturn, 1) := by decide +kernel
theorem dX10_draws_0 : decode cX10_draws 0 = .ok (.aload_n 0, 1) := by decide +kernel
theorem dX10_draws_1 : decode cX10_draws 1 = .ok (.getfield 33, 3) := by decide +kernel
theorem dX10_draws_4 : decode cX10_draws 4 = .ok (.aload_n 0, 1) := by decide +kernel
theorem dX10_draws_5 : decode cX10_draws 5 = .ok (.getfield 105, 3) := by decide +kernel
theorem dX10_draws_8 : decode cX10_draws 8 = .ok (.iaload, 1) := by decide +kernel
theorem dX10_draws_9 : decode cX10_draws 9 = .ok (.istore_n 1, 1) := by decide +kernel
theorem dX10_draws_10 : decode cX10_draws 10 = .ok (.bipush 40, 2) := by decide +kernel
theorem dX10_draws_12 : decode cX10_draws 12 = .ok (.aload_n 0, 1) := by decide +kernel
theorem dX10_draws_13 : decode cX10_draws 13 = .ok (.getfield 105, 3) := by decide +kernel
theorem dX10_draws_16 : decode cX10_draws 16 = .ok (.imul, 1) := by decide +kernel
theorem dX10_draws_17 : decode cX10_draws 17 = .ok (.istore_n 2, 1) := by decide +kernel
theorem dX10_draws_18 : decode cX10_draws 18 = .ok (.aload_n 0, 1) := by decide +kernel
theorem dX10_draws_19 : decode cX10_draws 19 = .ok (.getfield 54, 3) := by decide +kernel
theorem dX10_draws_22 : decode cX10_draws 22 = .ok (.aload_n 0, 1) := by decide +kernel
theorem dX10_draws_23 : decode cX10_draws 23 = .ok (.getfield 105, 3) := by decide +kernel
theorem dX10_draws_26 : decode cX10_draws 26 = .ok (.iaload, 1) := by decide +kernel
theorem dX10_draws_27 : decode cX10_draws 27 = .ok (.istore_n 3, 1) := by decide +kernel
theorem dX10_draws_28 : decode cX10_draws 28 = .ok (.iconst 0, 1) := by decide +kernel
theorem dX10_draws_29 : decode cX10_draws 29 = .ok (.istore 4, 2) := by decide +kernel
theorem dX10_draws_31 : decode cX10_draws 31 = .ok (.iload 4, 2) := by decide +kernel
theorem dX10_draws_33 : decode cX10_draws 33 = .ok (.iload_n 3, 1) := by decide +kernel
theorem dX10_draws_34 : decode cX10_draws 34 = .ok (.if_icmp .ge 25, 3) := by decide +kernel
theorem dX10_draws_37 : decode cX10_draws 37 = .ok (.aload_n 0, 1) := by decide +kernel
theorem dX10_draws_38 : decode cX10_draws 38 = .ok (.getfield 76, 3) := by decide +kernel
theorem dX10_draws_41 : decode cX10_draws 41 = .ok (.iload 4, 2) := by decide +kernel
theorem dX10_draws_43 : decode cX10_draws 43 = .ok (.aload_n 0, 1) := by decide +kernel
theorem dX10_draws_44 : decode cX10_draws 44 = .ok (.getfield 57, 3) := by decide +kernel
theorem dX10_draws_47 : decode cX10_draws 47 = .ok (.iload_n 2, 1) := by decide +kernel
theorem dX10_draws_48 : decode cX10_draws 48 = .ok (.iload 4, 2) := by decide +kernel
theorem dX10_draws_50 : decode cX10_draws 50 = .ok (.iadd, 1) := by decide +kernel
theorem dX10_draws_51 : decode cX10_draws 51 = .ok (.iaload, 1) := by decide +kernel
theorem dX10_draws_52 : decode cX10_draws 52 = .ok (.iastore, 1) := by decide +kernel
theorem dX10_draws_53 : decode cX10_draws 53 = .ok (.iinc 4 1, 3) := by decide +kernel
theorem dX10_draws_56 : decode cX10_draws 56 = .ok (.goto (-25), 3) := by decide +kernel
theorem dX10_draws_59 : decode cX10_draws 59 = .ok (.iconst 0, 1) := by decide +kernel
theorem dX10_draws_60 : decode cX10_draws 60 = .ok (.istore 4, 2) := by decide +kernel
theorem dX10_draws_62 : decode cX10_draws 62 = .ok (.iconst 0, 1) := by decide +kernel
theorem dX10_draws_63 : decode cX10_draws 63 = .ok (.istore 5, 2) := by decide +kernel
theorem dX10_draws_65 : decode cX10_draws 65 = .ok (.iload 5, 2) := by decide +kernel
theorem dX10_draws_67 : decode cX10_draws 67 = .ok (.iload_n 1, 1) := by decide +kernel
theorem dX10_draws_68 : decode cX10_draws 68 = .ok (.if_icmp .ge 129, 3) := by decide +kernel
theorem dX10_draws_71 : decode cX10_draws 71 = .ok (.iload_n 3, 1) := by decide +kernel
theorem dX10_draws_72 : decode cX10_draws 72 = .ok (.iload 5, 2) := by decide +kernel
theorem dX10_draws_74 : decode cX10_draws 74 = .ok (.isub, 1) := by decide +kernel
theorem dX10_draws_75 : decode cX10_draws 75 = .ok (.istore 6, 2) := by decide +kernel
theorem dX10_draws_77 : decode cX10_draws 77 = .ok (.iload 4, 2) := by decide +kernel
theorem dX10_draws_79 : decode cX10_draws 79 = .ok (.aload_n 0, 1) := by decide +kernel
theorem dX10_draws_80 : decode cX10_draws 80 = .ok (.getfield 174, 3) := by decide +kernel
theorem dX10_draws_83 : decode cX10_draws 83 = .ok (.if_icmp .ge 28, 3) := by decide +kernel
theorem dX10_draws_86 : decode cX10_draws 86 = .ok (.aload_n 0, 1) := by decide +kernel
theorem dX10_draws_87 : decode cX10_draws 87 = .ok (.getfield 64, 3) := by decide +kernel
theorem dX10_draws_90 : decode cX10_draws 90 = .ok (.iload 4, 2) := by decide +kernel
theorem dX10_draws_92 : decode cX10_draws 92 = .ok (.iaload, 1) := by decide +kernel
theorem dX10_draws_93 : decode cX10_draws 93 = .ok (.iload 6, 2) := by decide +kernel
theorem dX10_draws_95 : decode cX10_draws 95 = .ok (.sipush 10000, 3) := by decide +kernel
theorem dX10_draws_98 : decode cX10_draws 98 = .ok (.iload 6, 2) := by decide +kernel
theorem dX10_draws_100 : decode cX10_draws 100 = .ok (.idiv, 1) := by decide +kernel
theorem dX10_draws_101 : decode cX10_draws 101 = .ok (.imul, 1) := by decide +kernel
theorem dX10_draws_102 : decode cX10_draws 102 = .ok (.if_icmp .lt 9, 3) := by decide +kernel
theorem dX10_draws_105 : decode cX10_draws 105 = .ok (.iinc 4 1, 3) := by decide +kernel
theorem dX10_draws_108 : decode cX10_draws 108 = .ok (.goto (-31), 3) := by decide +kernel
theorem dX10_draws_111 : decode cX10_draws 111 = .ok (.iload 4, 2) := by decide +kernel
theorem dX10_draws_113 : decode cX10_draws 113 = .ok (.aload_n 0, 1) := by decide +kernel
theorem dX10_draws_114 : decode cX10_draws 114 = .ok (.getfield 174, 3) := by decide +kernel
theorem dX10_draws_117 : decode cX10_draws 117 = .ok (.if_icmp .ne 5, 3) := by decide +kernel
theorem dX10_draws_120 : decode cX10_draws 120 = .ok (.iconst 1, 1) := by decide +kernel
theorem dX10_draws_121 : decode cX10_draws 121 = .ok (.ireturn, 1) := by decide +kernel
theorem dX10_draws_122 : decode cX10_draws 122 = .ok (.aload_n 0, 1) := by decide +kernel
theorem dX10_draws_123 : decode cX10_draws 123 = .ok (.getfield 64, 3) := by decide +kernel
theorem dX10_draws_126 : decode cX10_draws 126 = .ok (.iload 4, 2) := by decide +kernel
theorem dX10_draws_128 : decode cX10_draws 128 = .ok (.iaload, 1) := by decide +kernel
theorem dX10_draws_129 : decode cX10_draws 129 = .ok (.iload 6, 2) := by decide +kernel
theorem dX10_draws_131 : decode cX10_draws 131 = .ok (.irem, 1) := by decide +kernel
theorem dX10_draws_132 : decode cX10_draws 132 = .ok (.istore 7, 2) := by decide +kernel
theorem dX10_draws_134 : decode cX10_draws 134 = .ok (.iinc 4 1, 3) := by decide +kernel
theorem dX10_draws_137 : decode cX10_draws 137 = .ok (.aload_n 0, 1) := by decide +kernel
theorem dX10_draws_138 : decode cX10_draws 138 = .ok (.getfield 57, 3) := by decide +kernel
theorem dX10_draws_141 : decode cX10_draws 141 = .ok (.iload_n 2, 1) := by decide +kernel
theorem dX10_draws_142 : decode cX10_draws 142 = .ok (.bipush 40, 2) := by decide +kernel
theorem dX10_draws_144 : decode cX10_draws 144 = .ok (.iadd, 1) := by decide +kernel
theorem dX10_draws_145 : decode cX10_draws 145 = .ok (.iload 5, 2) := by decide +kernel
theorem dX10_draws_147 : decode cX10_draws 147 = .ok (.iadd, 1) := by decide +kernel
theorem dX10_draws_148 : decode cX10_draws 148 = .ok (.aload_n 0, 1) := by decide +kernel
theorem dX10_draws_149 : decode cX10_draws 149 = .ok (.getfield 76, 3) := by decide +kernel
theorem dX10_draws_152 : decode cX10_draws 152 = .ok (.iload 7, 2) := by decide +kernel
theorem dX10_draws_154 : decode cX10_draws 154 = .ok (.iaload, 1) := by decide +kernel
theorem dX10_draws_155 : decode cX10_draws 155 = .ok (.iastore, 1) := by decide +kernel
theorem dX10_draws_156 : decode cX10_draws 156 = .ok (.iload 7, 2) := by decide +kernel
theorem dX10_draws_158 : decode cX10_draws 158 = .ok (.istore 8, 2) := by decide +kernel
theorem dX10_draws_160 : decode cX10_draws 160 = .ok (.iload 8, 2) := by decide +kernel
theorem dX10_draws_162 : decode cX10_draws 162 = .ok (.iload 6, 2) := by decide +kernel
theorem dX10_draws_164 : decode cX10_draws 164 = .ok (.iconst 1, 1) := by decide +kernel
theorem dX10_draws_165 : decode cX10_draws 165 = .ok (.isub, 1) := by decide +kernel
theorem dX10_draws_166 : decode cX10_draws 166 = .ok (.if_icmp .ge 25, 3) := by decide +kernel
theorem dX10_draws_169 : decode cX10_draws 169 = .ok (.aload_n 0, 1) := by decide +kernel
theorem dX10_draws_170 : decode cX10_draws 170 = .ok (.getfield 76, 3) := by decide +kernel
theorem dX10_draws_173 : decode cX10_draws 173 = .ok (.iload 8, 2) := by decide +kernel
theorem dX10_draws_175 : decode cX10_draws 175 = .ok (.aload_n 0, 1) := by decide +kernel
theorem dX10_draws_176 : decode cX10_draws 176 = .ok (.getfield 76, 3) := by decide +kernel
theorem dX10_draws_179 : decode cX10_draws 179 = .ok (.iload 8, 2) := by decide +kernel
theorem dX10_draws_181 : decode cX10_draws 181 = .ok (.iconst 1, 1) := by decide +kernel
theorem dX10_draws_182 : decode cX10_draws 182 = .ok (.iadd, 1) := by decide +kernel
theorem dX10_draws_183 : decode cX10_draws 183 = .ok (.iaload, 1) := by decide +kernel
theorem dX10_draws_184 : decode cX10_draws 184 = .ok (.iastore, 1) := by decide +kernel
theorem dX10_draws_185 : decode cX10_draws 185 = .ok (.iinc 8 1, 3) := by decide +kernel
theorem dX10_draws_188 : decode cX10_draws 188 = .ok (.goto (-28), 3) := by decide +kernel
theorem dX10_draws_191 : decode cX10_draws 191 = .ok (.iinc 5 1, 3) := by decide +kernel
theorem dX10_draws_194 : decode cX10_draws 194 = .ok (.goto (-129), 3) := by decide +kernel
theorem dX10_draws_197 : decode cX10_draws 197 = .ok (.aload_n 0, 1) := by decide +kernel
theorem dX10_draws_198 : decode cX10_draws 198 = .ok (.getfield 54, 3) := by decide +kernel
theorem dX10_draws_201 : decode cX10_draws 201 = .ok (.aload_n 0, 1) := by decide +kernel
theorem dX10_draws_202 : decode cX10_draws 202 = .ok (.getfield 105, 3) := by decide +kernel
theorem dX10_draws_205 : decode cX10_draws 205 = .ok (.iconst 1, 1) := by decide +kernel
theorem dX10_draws_206 : decode cX10_draws 206 = .ok (.iadd, 1) := by decide +kernel
theorem dX10_draws_207 : decode cX10_draws 207 = .ok (.iload_n 1, 1) := by decide +kernel
theorem dX10_draws_208 : decode cX10_draws 208 = .ok (.iastore, 1) := by decide +kernel
theorem dX10_draws_209 : decode cX10_draws 209 = .ok (.iload 4, 2) := by decide +kernel
theorem dX10_draws_211 : decode cX10_draws 211 = .ok (.istore 5, 2) := by decide +kernel
theorem dX10_draws_213 : decode cX10_draws 213 = .ok (.iload 5, 2) := by decide +kernel
theorem dX10_draws_215 : decode cX10_draws 215 = .ok (.aload_n 0, 1) := by decide +kernel
theorem dX10_draws_216 : decode cX10_draws 216 = .ok (.getfield 174, 3) := by decide +kernel
theorem dX10_draws_219 : decode cX10_draws 219 = .ok (.if_icmp .ge 26, 3) := by decide +kernel
theorem dX10_draws_222 : decode cX10_draws 222 = .ok (.aload_n 0, 1) := by decide +kernel
theorem dX10_draws_223 : decode cX10_draws 223 = .ok (.getfield 64, 3) := by decide +kernel
theorem dX10_draws_226 : decode cX10_draws 226 = .ok (.iload 5, 2) := by decide +kernel
theorem dX10_draws_228 : decode cX10_draws 228 = .ok (.iload 4, 2) := by decide +kernel
theorem dX10_draws_230 : decode cX10_draws 230 = .ok (.isub, 1) := by decide +kernel
theorem dX10_draws_231 : decode cX10_draws 231 = .ok (.aload_n 0, 1) := by decide +kernel
theorem dX10_draws_232 : decode cX10_draws 232 = .ok (.getfield 64, 3) := by decide +kernel
theorem dX10_draws_235 : decode cX10_draws 235 = .ok (.iload 5, 2) := by decide +kernel
theorem dX10_draws_237 : decode cX10_draws 237 = .ok (.iaload, 1) := by decide +kernel
theorem dX10_draws_238 : decode cX10_draws 238 = .ok (.iastore, 1) := by decide +kernel
theorem dX10_draws_239 : decode cX10_draws 239 = .ok (.iinc 5 1, 3) := by decide +kernel
theorem dX10_draws_242 : decode cX10_draws 242 = .ok (.goto (-29), 3) := by decide +kernel
theorem dX10_draws_245 : decode cX10_draws 245 = .ok (.aload_n 0, 1) := by decide +kernel
theorem dX10_draws_246 : decode cX10_draws 246 = .ok (.dup, 1) := by decide +kernel
theorem dX10_draws_247 : decode cX10_draws 247 = .ok (.getfield 174, 3) := by decide +kernel
theorem dX10_draws_250 : decode cX10_draws 250 = .ok (.iload 4, 2) := by decide +kernel
theorem dX10_draws_252 : decode cX10_draws 252 = .ok (.isub, 1) := by decide +kernel
theorem dX10_draws_253 : decode cX10_draws 253 = .ok (.putfield 174, 3) := by decide +kernel
theorem dX10_draws_256 : decode cX10_draws 256 = .ok (.aload_n 0, 1) := by decide +kernel
theorem dX10_draws_257 : decode cX10_draws 257 = .ok (.dup, 1) := by decide +kernel
theorem dX10_draws_258 : decode cX10_draws 258 = .ok (.getfield 177, 3) := by decide +kernel
theorem dX10_draws_261 : decode cX10_draws 261 = .ok (.iload 4, 2) := by decide +kernel
theorem dX10_draws_263 : decode cX10_draws 263 = .ok (.iadd, 1) := by decide +kernel
theorem dX10_draws_264 : decode cX10_draws 264 = .ok (.putfield 177, 3) := by decide +kernel
theorem dX10_draws_267 : decode cX10_draws 267 = .ok (.iconst 0, 1) := by decide +kernel
theorem dX10_draws_268 : decode cX10_draws 268 = .ok (.ireturn, 1) := by decide +kernel
theorem dX10_votesFor_0 : decode cX10_votesFor 0 = .ok (.iconst 0, 1) := by decide +kernel
theorem dX10_votesFor_1 : decode cX10_votesFor 1 = .ok (.istore_n 2, 1) := by decide +kernel
theorem dX10_votesFor_2 : decode cX10_votesFor 2 = .ok (.iconst 0, 1) := by decide +kernel
