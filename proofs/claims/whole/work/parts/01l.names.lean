theorem dX10_drawn_77 : decode cX10_drawn 77 = .ok (.iload 7, 2) := by decide +kernel
theorem dX10_drawn_79 : decode cX10_drawn 79 = .ok (.isub, 1) := by decide +kernel
theorem dX10_drawn_80 : decode cX10_drawn 80 = .ok (.istore 8, 2) := by decide +kernel
theorem dX10_drawn_82 : decode cX10_drawn 82 = .ok (.iload 8, 2) := by decide +kernel
theorem dX10_drawn_84 : decode cX10_drawn 84 = .ok (.iload_n 1, 1) := by decide +kernel
theorem dX10_drawn_85 : decode cX10_drawn 85 = .ok (.iconst 3, 1) := by decide +kernel
theorem dX10_drawn_86 : decode cX10_drawn 86 = .ok (.invokestatic 205, 3) := by decide +kernel
theorem dX10_drawn_89 : decode cX10_drawn 89 = .ok (.if_icmp .le 6, 3) := by decide +kernel
theorem dX10_drawn_92 : decode cX10_drawn 92 = .ok (.goto 89, 3) := by decide +kernel
theorem dX10_drawn_95 : decode cX10_drawn 95 = .ok (.iload_n 1, 1) := by decide +kernel
theorem dX10_drawn_96 : decode cX10_drawn 96 = .ok (.iconst 0, 1) := by decide +kernel
theorem dX10_drawn_97 : decode cX10_drawn 97 = .ok (.invokestatic 205, 3) := by decide +kernel
theorem dX10_drawn_100 : decode cX10_drawn 100 = .ok (.iload 5, 2) := by decide +kernel
theorem dX10_drawn_102 : decode cX10_drawn 102 = .ok (.invokestatic 218, 3) := by decide +kernel
theorem dX10_drawn_105 : decode cX10_drawn 105 = .ok (.iload_n 1, 1) := by decide +kernel
theorem dX10_drawn_106 : decode cX10_drawn 106 = .ok (.iconst 1, 1) := by decide +kernel
theorem dX10_drawn_107 : decode cX10_drawn 107 = .ok (.invokestatic 205, 3) := by decide +kernel
theorem dX10_drawn_110 : decode cX10_drawn 110 = .ok (.iload 6, 2) := by decide +kernel
theorem dX10_drawn_112 : decode cX10_drawn 112 = .ok (.invokestatic 218, 3) := by decide +kernel
theorem dX10_drawn_115 : decode cX10_drawn 115 = .ok (.invokestatic 222, 3) := by decide +kernel
theorem dX10_drawn_118 : decode cX10_drawn 118 = .ok (.iload_n 1, 1) := by decide +kernel
theorem dX10_drawn_119 : decode cX10_drawn 119 = .ok (.iconst 2, 1) := by decide +kernel
theorem dX10_drawn_120 : decode cX10_drawn 120 = .ok (.invokestatic 205, 3) := by decide +kernel
theorem dX10_drawn_123 : decode cX10_drawn 123 = .ok (.iload 7, 2) := by decide +kernel
theorem dX10_drawn_125 : decode cX10_drawn 125 = .ok (.invokestatic 218, 3) := by decide +kernel
theorem dX10_drawn_128 : decode cX10_drawn 128 = .ok (.iload_n 1, 1) := by decide +kernel
theorem dX10_drawn_129 : decode cX10_drawn 129 = .ok (.iconst 3, 1) := by decide +kernel
theorem dX10_drawn_130 : decode cX10_drawn 130 = .ok (.invokestatic 205, 3) := by decide +kernel
theorem dX10_drawn_133 : decode cX10_drawn 133 = .ok (.iload 8, 2) := by decide +kernel
theorem dX10_drawn_135 : decode cX10_drawn 135 = .ok (.invokestatic 218, 3) := by decide +kernel
theorem dX10_drawn_138 : decode cX10_drawn 138 = .ok (.invokestatic 222, 3) := by decide +kernel
theorem dX10_drawn_141 : decode cX10_drawn 141 = .ok (.invokestatic 222, 3) := by decide +kernel
theorem dX10_drawn_144 : decode cX10_drawn 144 = .ok (.lstore 9, 2) := by decide +kernel
theorem dX10_drawn_146 : decode cX10_drawn 146 = .ok (.aload_n 0, 1) := by decide +kernel
theorem dX10_drawn_147 : decode cX10_drawn 147 = .ok (.iload 5, 2) := by decide +kernel
theorem dX10_drawn_149 : decode cX10_drawn 149 = .ok (.iload 6, 2) := by decide +kernel
theorem dX10_drawn_151 : decode cX10_drawn 151 = .ok (.bipush 6, 2) := by decide +kernel
theorem dX10_drawn_153 : decode cX10_drawn 153 = .ok (.ishl, 1) := by decide +kernel
theorem dX10_drawn_154 : decode cX10_drawn 154 = .ok (.ior, 1) := by decide +kernel
theorem dX10_drawn_155 : decode cX10_drawn 155 = .ok (.iload 7, 2) := by decide +kernel
theorem dX10_drawn_157 : decode cX10_drawn 157 = .ok (.bipush 12, 2) := by decide +kernel
theorem dX10_drawn_159 : decode cX10_drawn 159 = .ok (.ishl, 1) := by decide +kernel
theorem dX10_drawn_160 : decode cX10_drawn 160 = .ok (.ior, 1) := by decide +kernel
theorem dX10_drawn_161 : decode cX10_drawn 161 = .ok (.iload 8, 2) := by decide +kernel
theorem dX10_drawn_163 : decode cX10_drawn 163 = .ok (.bipush 18, 2) := by decide +kernel
theorem dX10_drawn_165 : decode cX10_drawn 165 = .ok (.ishl, 1) := by decide +kernel
theorem dX10_drawn_166 : decode cX10_drawn 166 = .ok (.ior, 1) := by decide +kernel
theorem dX10_drawn_167 : decode cX10_drawn 167 = .ok (.lload_n 2, 1) := by decide +kernel
theorem dX10_drawn_168 : decode cX10_drawn 168 = .ok (.lload 9, 2) := by decide +kernel
theorem dX10_drawn_170 : decode cX10_drawn 170 = .ok (.invokestatic 222, 3) := by decide +kernel
theorem dX10_drawn_173 : decode cX10_drawn 173 = .ok (.invokevirtual 226, 3) := by decide +kernel
theorem dX10_drawn_176 : decode cX10_drawn 176 = .ok (.ifCond .ne 5, 3) := by decide +kernel
theorem dX10_drawn_179 : decode cX10_drawn 179 = .ok (.iconst 0, 1) := by decide +kernel
theorem dX10_drawn_180 : decode cX10_drawn 180 = .ok (.ireturn, 1) := by decide +kernel
theorem dX10_drawn_181 : decode cX10_drawn 181 = .ok (.iinc 7 1, 3) := by decide +kernel
theorem dX10_drawn_184 : decode cX10_drawn 184 = .ok (.goto (-138), 3) := by decide +kernel
theorem dX10_drawn_187 : decode cX10_drawn 187 = .ok (.iinc 6 1, 3) := by decide +kernel
theorem dX10_drawn_190 : decode cX10_drawn 190 = .ok (.goto (-167), 3) := by decide +kernel
theorem dX10_drawn_193 : decode cX10_drawn 193 = .ok (.iinc 5 1, 3) := by decide +kernel
theorem dX10_drawn_196 : decode cX10_drawn 196 = .ok (.goto (-193), 3) := by decide +kernel
theorem dX10_drawn_199 : decode cX10_drawn 199 = .ok (.iconst 1, 1) := by decide +kernel
theorem dX10_drawn_200 : decode cX10_drawn 200 = .ok (.ireturn, 1) := by decide +kernel
set_option maxRecDepth 20000 in
theorem ggX10_votesBy_X10_partOf : GoodIn wsX10_votesBy wsX10_partOf := goodIn_r _ [5] (by decide +kernel) (by decide +kernel)
set_option maxRecDepth 20000 in
theorem gX10_votesBy_X10_partOf : GoodIn wsX10_votesBy (va_wsS RX10 205 yX10_partOf wsX10_partOf) := goodIn_app (goodIn_of _ (by decide +kernel)) ggX10_votesBy_X10_partOf
theorem dX10_votesBy_0 : decode cX10_votesBy 0 = .ok (.iconst 0, 1) := by decide +kernel
theorem dX10_votesBy_1 : decode cX10_votesBy 1 = .ok (.istore_n 3, 1) := by decide +kernel
theorem dX10_votesBy_2 : decode cX10_votesBy 2 = .ok (.iconst 0, 1) := by decide +kernel
theorem dX10_votesBy_3 : decode cX10_votesBy 3 = .ok (.istore 4, 2) := by decide +kernel
theorem dX10_votesBy_5 : decode cX10_votesBy 5 = .ok (.iload 4, 2) := by decide +kernel
theorem dX10_votesBy_7 : decode cX10_votesBy 7 = .ok (.iconst 4, 1) := by decide +kernel
theorem dX10_votesBy_8 : decode cX10_votesBy 8 = .ok (.if_icmp .ge 36, 3) := by decide +kernel
theorem dX10_votesBy_11 : decode cX10_votesBy 11 = .ok (.iload_n 3, 1) := by decide +kernel
theorem dX10_votesBy_12 : decode cX10_votesBy 12 = .ok (.aload_n 0, 1) := by decide +kernel
theorem dX10_votesBy_13 : decode cX10_votesBy 13 = .ok (.getfield 23, 3) := by decide +kernel
theorem dX10_votesBy_16 : decode cX10_votesBy 16 = .ok (.iconst 4, 1) := by decide +kernel
theorem dX10_votesBy_17 : decode cX10_votesBy 17 = .ok (.iload 4, 2) := by decide +kernel
theorem dX10_votesBy_19 : decode cX10_votesBy 19 = .ok (.imul, 1) := by decide +kernel
theorem dX10_votesBy_20 : decode cX10_votesBy 20 = .ok (.iload_n 2, 1) := by decide +kernel
theorem dX10_votesBy_21 : decode cX10_votesBy 21 = .ok (.iadd, 1) := by decide +kernel
theorem dX10_votesBy_22 : decode cX10_votesBy 22 = .ok (.baload, 1) := by decide +kernel
theorem dX10_votesBy_23 : decode cX10_votesBy 23 = .ok (.ifCond .eq 12, 3) := by decide +kernel
theorem dX10_votesBy_26 : decode cX10_votesBy 26 = .ok (.iload_n 1, 1) := by decide +kernel
theorem dX10_votesBy_27 : decode cX10_votesBy 27 = .ok (.iload 4, 2) := by decide +kernel
theorem dX10_votesBy_29 : decode cX10_votesBy 29 = .ok (.invokestatic 205, 3) := by decide +kernel
theorem dX10_votesBy_32 : decode cX10_votesBy 32 = .ok (.goto 4, 3) := by decide +kernel
theorem dX10_votesBy_35 : decode cX10_votesBy 35 = .ok (.iconst 0, 1) := by decide +kernel
theorem dX10_votesBy_36 : decode cX10_votesBy 36 = .ok (.iadd, 1) := by decide +kernel
theorem dX10_votesBy_37 : decode cX10_votesBy 37 = .ok (.istore_n 3, 1) := by decide +kernel
theorem dX10_votesBy_38 : decode cX10_votesBy 38 = .ok (.iinc 4 1, 3) := by decide +kernel
theorem dX10_votesBy_41 : decode cX10_votesBy 41 = .ok (.goto (-36), 3) := by decide +kernel
theorem dX10_votesBy_44 : decode cX10_votesBy 44 = .ok (.iload_n 3, 1) := by decide +kernel
theorem dX10_votesBy_45 : decode cX10_votesBy 45 = .ok (.ireturn, 1) := by decide +kernel
set_option maxRecDepth 20000 in
theorem ggX10_chosenBy_X10_votesBy : GoodIn wsX10_chosenBy wsX10_votesBy := goodIn_r _ [11, 12, 13, 14, 10, 15, 16, 17, 18, 19, 20, 21, 22, 23, 24, 25, 26, 27, 28, 29, 30, 31, 32, 33, 34, 35, 36, 37, 38, 39, 40, 41, 42, 43, 44, 45, 46, 47, 48, 49, 50, 51, 52, 53, 54, 55, 56, 57, 58, 59, 60, 61, 62, 63, 64, 65] (by decide +kernel) (by decide +kernel)
set_option maxRecDepth 20000 in
theorem gX10_chosenBy_X10_votesBy : GoodIn wsX10_chosenBy (wsV RX10 230 RX10 yX10_votesBy wsX10_votesBy) := goodIn_app (goodIn_of _ (by decide +kernel)) ggX10_chosenBy_X10_votesBy
theorem dX10_chosenBy_0 : decode cX10_chosenBy 0 = .ok (.iconst 0, 1) := by decide +kernel
theorem dX10_chosenBy_1 : decode cX10_chosenBy 1 = .ok (.istore_n 3, 1) := by decide +kernel
theorem dX10_chosenBy_2 : decode cX10_chosenBy 2 = .ok (.iconst 0, 1) := by decide +kernel
theorem dX10_chosenBy_3 : decode cX10_chosenBy 3 = .ok (.istore 4, 2) := by decide +kernel
theorem dX10_chosenBy_5 : decode cX10_chosenBy 5 = .ok (.iconst 0, 1) := by decide +kernel
theorem dX10_chosenBy_6 : decode cX10_chosenBy 6 = .ok (.istore 5, 2) := by decide +kernel
theorem dX10_chosenBy_8 : decode cX10_chosenBy 8 = .ok (.iload 5, 2) := by decide +kernel
theorem dX10_chosenBy_10 : decode cX10_chosenBy 10 = .ok (.aload_n 0, 1) := by decide +kernel
theorem dX10_chosenBy_11 : decode cX10_chosenBy 11 = .ok (.getfield 98, 3) := by decide +kernel
theorem dX10_chosenBy_14 : decode cX10_chosenBy 14 = .ok (.if_icmp .ge 79, 3) := by decide +kernel
theorem dX10_chosenBy_17 : decode cX10_chosenBy 17 = .ok (.iload_n 3, 1) := by decide +kernel
theorem dX10_chosenBy_18 : decode cX10_chosenBy 18 = .ok (.aload_n 0, 1) := by decide +kernel
theorem dX10_chosenBy_19 : decode cX10_chosenBy 19 = .ok (.getfield 33, 3) := by decide +kernel
theorem dX10_chosenBy_22 : decode cX10_chosenBy 22 = .ok (.iload_n 2, 1) := by decide +kernel
theorem dX10_chosenBy_23 : decode cX10_chosenBy 23 = .ok (.iaload, 1) := by decide +kernel
theorem dX10_chosenBy_24 : decode cX10_chosenBy 24 = .ok (.if_icmp .ge 69, 3) := by decide +kernel
theorem dX10_chosenBy_27 : decode cX10_chosenBy 27 = .ok (.aload_n 0, 1) := by decide +kernel
theorem dX10_chosenBy_28 : decode cX10_chosenBy 28 = .ok (.getfield 16, 3) := by decide +kernel
theorem dX10_chosenBy_31 : decode cX10_chosenBy 31 = .ok (.iload 5, 2) := by decide +kernel
theorem dX10_chosenBy_33 : decode cX10_chosenBy 33 = .ok (.baload, 1) := by decide +kernel
theorem dX10_chosenBy_34 : decode cX10_chosenBy 34 = .ok (.ifCond .eq 53, 3) := by decide +kernel
theorem dX10_chosenBy_37 : decode cX10_chosenBy 37 = .ok (.aload_n 0, 1) := by decide +kernel
theorem dX10_chosenBy_38 : decode cX10_chosenBy 38 = .ok (.iload_n 1, 1) := by decide +kernel
theorem dX10_chosenBy_39 : decode cX10_chosenBy 39 = .ok (.aload_n 0, 1) := by decide +kernel
theorem dX10_chosenBy_40 : decode cX10_chosenBy 40 = .ok (.getfield 13, 3) := by decide +kernel
theorem dX10_chosenBy_43 : decode cX10_chosenBy 43 = .ok (.iload 5, 2) := by decide +kernel
theorem dX10_chosenBy_45 : decode cX10_chosenBy 45 = .ok (.iaload, 1) := by decide +kernel
theorem dX10_chosenBy_46 : decode cX10_chosenBy 46 = .ok (.invokevirtual 230, 3) := by decide +kernel
theorem dX10_chosenBy_49 : decode cX10_chosenBy 49 = .ok (.aload_n 0, 1) := by decide +kernel
theorem dX10_chosenBy_50 : decode cX10_chosenBy 50 = .ok (.getfield 36, 3) := by decide +kernel
theorem dX10_chosenBy_53 : decode cX10_chosenBy 53 = .ok (.iload_n 2, 1) := by decide +kernel
theorem dX10_chosenBy_54 : decode cX10_chosenBy 54 = .ok (.iaload, 1) := by decide +kernel
theorem dX10_chosenBy_55 : decode cX10_chosenBy 55 = .ok (.if_icmp .ge 6, 3) := by decide +kernel
theorem dX10_chosenBy_58 : decode cX10_chosenBy 58 = .ok (.goto 29, 3) := by decide +kernel
theorem dX10_chosenBy_61 : decode cX10_chosenBy 61 = .ok (.iload 4, 2) := by decide +kernel
theorem dX10_chosenBy_63 : decode cX10_chosenBy 63 = .ok (.iconst 1, 1) := by decide +kernel
theorem dX10_chosenBy_64 : decode cX10_chosenBy 64 = .ok (.bipush 6, 2) := by decide +kernel
theorem dX10_chosenBy_66 : decode cX10_chosenBy 66 = .ok (.aload_n 0, 1) := by decide +kernel
theorem dX10_chosenBy_67 : decode cX10_chosenBy 67 = .ok (.getfield 13, 3) := by decide +kernel
theorem dX10_chosenBy_70 : decode cX10_chosenBy 70 = .ok (.iload 5, 2) := by decide +kernel
theorem dX10_chosenBy_72 : decode cX10_chosenBy 72 = .ok (.iaload, 1) := by decide +kernel
theorem dX10_chosenBy_73 : decode cX10_chosenBy 73 = .ok (.imul, 1) := by decide +kernel
theorem dX10_chosenBy_74 : decode cX10_chosenBy 74 = .ok (.ishl, 1) := by decide +kernel
theorem dX10_chosenBy_75 : decode cX10_chosenBy 75 = .ok (.iadd, 1) := by decide +kernel
theorem dX10_chosenBy_76 : decode cX10_chosenBy 76 = .ok (.istore 4, 2) := by decide +kernel
theorem dX10_chosenBy_78 : decode cX10_chosenBy 78 = .ok (.iinc 3 1, 3) := by decide +kernel
theorem dX10_chosenBy_81 : decode cX10_chosenBy 81 = .ok (.aload_n 0, 1) := by decide +kernel
theorem dX10_chosenBy_82 : decode cX10_chosenBy 82 = .ok (.iload 5, 2) := by decide +kernel
theorem dX10_chosenBy_84 : decode cX10_chosenBy 84 = .ok (.putfield 233, 3) := by decide +kernel
theorem dX10_chosenBy_87 : decode cX10_chosenBy 87 = .ok (.iinc 5 1, 3) := by decide +kernel
theorem dX10_chosenBy_90 : decode cX10_chosenBy 90 = .ok (.goto (-82), 3) := by decide +kernel
theorem dX10_chosenBy_93 : decode cX10_chosenBy 93 = .ok (.iload_n 3, 1) := by decide +kernel
theorem dX10_chosenBy_94 : decode cX10_chosenBy 94 = .ok (.aload_n 0, 1) := by decide +kernel
theorem dX10_chosenBy_95 : decode cX10_chosenBy 95 = .ok (.getfield 33, 3) := by decide +kernel
theorem dX10_chosenBy_98 : decode cX10_chosenBy 98 = .ok (.iload_n 2, 1) := by decide +kernel
theorem dX10_chosenBy_99 : decode cX10_chosenBy 99 = .ok (.iaload, 1) := by decide +kernel
theorem dX10_chosenBy_100 : decode cX10_chosenBy 100 = .ok (.if_icmp .ne 8, 3) := by decide +kernel
theorem dX10_chosenBy_103 : decode cX10_chosenBy 103 = .ok (.iload 4, 2) := by decide +kernel
theorem dX10_chosenBy_105 : decode cX10_chosenBy 105 = .ok (.goto 4, 3) := by decide +kernel
theorem dX10_chosenBy_108 : decode cX10_chosenBy 108 = .ok (.iconst (-1), 1) := by decide +kernel
theorem dX10_chosenBy_109 : decode cX10_chosenBy 109 = .ok (.ireturn, 1) := by decide +kernel
set_option maxRecDepth 20000 in
theorem ggX10_chances_X10_sets : GoodIn wsX10_chances wsX10_sets := goodIn_r _ [23, 24, 25, 13] (by decide +kernel) (by decide +kernel)
set_option maxRecDepth 20000 in
theorem gX10_chances_X10_sets : GoodIn wsX10_chances (va_wsS RX10 218 yX10_sets wsX10_sets) := goodIn_app (goodIn_of _ (by decide +kernel)) ggX10_chances_X10_sets
set_option maxRecDepth 20000 in
theorem ggX10_chances_X10_times : GoodIn wsX10_chances wsX10_times := goodIn_r _ [28, 13, 25] (by decide +kernel) (by decide +kernel)
set_option maxRecDepth 20000 in
theorem gX10_chances_X10_times : GoodIn wsX10_chances (va_wsS RX10 222 yX10_times wsX10_times) := goodIn_app (goodIn_of _ (by decide +kernel)) ggX10_chances_X10_times
set_option maxRecDepth 20000 in
theorem ggX10_chances_X10_sizeOf : GoodIn wsX10_chances wsX10_sizeOf := goodIn_r _ [31, 32, 33, 22, 34] (by decide +kernel) (by decide +kernel)
set_option maxRecDepth 20000 in
theorem gX10_chances_X10_sizeOf : GoodIn wsX10_chances (va_wsS RX10 243 yX10_sizeOf wsX10_sizeOf) := goodIn_app (goodIn_of _ (by decide +kernel)) ggX10_chances_X10_sizeOf
set_option maxRecDepth 20000 in
theorem ggX10_chances_X10_drawn : GoodIn wsX10_chances wsX10_drawn := goodIn_r _ [38, 32, 33, 22, 34, 20, 21, 23, 24, 25, 13, 26, 27, 28, 39, 40, 41, 42, 14, 16, 17, 55, 56, 57, 58, 59, 60, 61, 62, 63, 64, 65, 66, 67, 68, 69, 70, 71, 72, 73, 74, 75, 76, 77, 78, 79, 80, 81, 82, 83, 84, 85, 86, 87, 88, 89, 90, 91, 92, 93, 94, 95, 96, 97, 98, 99, 100, 101, 102, 103, 104] (by decide +kernel) (by decide +kernel)
set_option maxRecDepth 20000 in
theorem gX10_chances_X10_drawn : GoodIn wsX10_chances (wsV RX10 246 RX10 yX10_drawn wsX10_drawn) := goodIn_app (goodIn_of _ (by decide +kernel)) ggX10_chances_X10_drawn
set_option maxRecDepth 20000 in
theorem ggX10_chances_X10_chosenBy : GoodIn wsX10_chances wsX10_chosenBy := goodIn_r _ [46, 47, 11, 48, 7, 49, 15, 50, 51, 52, 22, 53, 54, 32, 33, 34, 55, 56, 57, 58, 59, 60, 61, 62, 63, 64, 65, 66, 67, 68, 69, 70, 71, 72, 73, 74, 75, 76, 77, 78, 79, 80, 81, 82, 83, 84, 85, 86, 87, 88, 89, 90, 91, 92, 93, 94, 95, 96, 97, 98, 99, 100, 101, 102, 103, 104] (by decide +kernel) (by decide +kernel)
set_option maxRecDepth 20000 in
theorem gX10_chances_X10_chosenBy : GoodIn wsX10_chances (wsV RX10 250 RX10 yX10_chosenBy wsX10_chosenBy) := goodIn_app (goodIn_of _ (by decide +kernel)) ggX10_chances_X10_chosenBy
set_option maxRecDepth 20000 in
theorem ggX10_chances_X10_comes : GoodIn wsX10_chances wsX10_comes := goodIn_r _ [42, 14, 16, 17, 55, 56, 57, 58, 59, 60, 61, 62, 63, 64, 65, 66, 67, 68, 69, 70, 71, 72, 73, 74, 75, 76, 77, 78, 79, 80, 81, 82, 83, 84, 85, 86, 87, 88, 89, 90, 91, 92, 93, 94, 95, 96, 97, 98, 99, 100, 101, 102, 103, 104] (by decide +kernel) (by decide +kernel)
set_option maxRecDepth 20000 in
theorem gX10_chances_X10_comes : GoodIn wsX10_chances (wsV RX10 226 RX10 yX10_comes wsX10_comes) := goodIn_app (goodIn_of _ (by decide +kernel)) ggX10_chances_X10_comes
theorem dX10_chances_0 : decode cX10_chances 0 = .ok (.aload_n 0, 1) := by decide +kernel
theorem dX10_chances_1 : decode cX10_chances 1 = .ok (.getfield 171, 3) := by decide +kernel
theorem dX10_chances_4 : decode cX10_chances 4 = .ok (.ifCond .eq 14, 3) := by decide +kernel
theorem dX10_chances_7 : decode cX10_chances 7 = .ok (.aload_n 0, 1) := by decide +kernel
theorem dX10_chances_8 : decode cX10_chances 8 = .ok (.getfield 105, 3) := by decide +kernel
theorem dX10_chances_11 : decode cX10_chances 11 = .ok (.aload_n 0, 1) := by decide +kernel
theorem dX10_chances_12 : decode cX10_chances 12 = .ok (.getfield 171, 3) := by decide +kernel
theorem dX10_chances_15 : decode cX10_chances 15 = .ok (.if_icmp .ne 5, 3) := by decide +kernel
theorem dX10_chances_18 : decode cX10_chances 18 = .ok (.iconst (-1), 1) := by decide +kernel
theorem dX10_chances_19 : decode cX10_chances 19 = .ok (.ireturn, 1) := by decide +kernel
theorem dX10_chances_20 : decode cX10_chances 20 = .ok (.aload_n 0, 1) := by decide +kernel
theorem dX10_chances_21 : decode cX10_chances 21 = .ok (.iconst 1, 1) := by decide +kernel
theorem dX10_chances_22 : decode cX10_chances 22 = .ok (.putfield 236, 3) := by decide +kernel
theorem dX10_chances_25 : decode cX10_chances 25 = .ok (.aload_n 0, 1) := by decide +kernel
theorem dX10_chances_26 : decode cX10_chances 26 = .ok (.getfield 79, 3) := by decide +kernel
theorem dX10_chances_29 : decode cX10_chances 29 = .ok (.iconst 0, 1) := by decide +kernel
theorem dX10_chances_30 : decode cX10_chances 30 = .ok (.iconst 0, 1) := by decide +kernel
theorem dX10_chances_31 : decode cX10_chances 31 = .ok (.iastore, 1) := by decide +kernel
theorem dX10_chances_32 : decode cX10_chances 32 = .ok (.aload_n 0, 1) := by decide +kernel
theorem dX10_chances_33 : decode cX10_chances 33 = .ok (.getfield 82, 3) := by decide +kernel
theorem dX10_chances_36 : decode cX10_chances 36 = .ok (.iconst 0, 1) := by decide +kernel
theorem dX10_chances_37 : decode cX10_chances 37 = .ok (.lconst 1, 1) := by decide +kernel
theorem dX10_chances_38 : decode cX10_chances 38 = .ok (.lastore, 1) := by decide +kernel
theorem dX10_chances_39 : decode cX10_chances 39 = .ok (.iconst 0, 1) := by decide +kernel
theorem dX10_chances_40 : decode cX10_chances 40 = .ok (.istore_n 1, 1) := by decide +kernel
theorem dX10_chances_41 : decode cX10_chances 41 = .ok (.iload_n 1, 1) := by decide +kernel
theorem dX10_chances_42 : decode cX10_chances 42 = .ok (.aload_n 0, 1) := by decide +kernel
theorem dX10_chances_43 : decode cX10_chances 43 = .ok (.getfield 54, 3) := by decide +kernel
theorem dX10_chances_46 : decode cX10_chances 46 = .ok (.aload_n 0, 1) := by decide +kernel
theorem dX10_chances_47 : decode cX10_chances 47 = .ok (.getfield 105, 3) := by decide +kernel
theorem dX10_chances_50 : decode cX10_chances 50 = .ok (.iaload, 1) := by decide +kernel
theorem dX10_chances_51 : decode cX10_chances 51 = .ok (.if_icmp .ge 42, 3) := by decide +kernel
theorem dX10_chances_54 : decode cX10_chances 54 = .ok (.aload_n 0, 1) := by decide +kernel
theorem dX10_chances_55 : decode cX10_chances 55 = .ok (.getfield 79, 3) := by decide +kernel
theorem dX10_chances_58 : decode cX10_chances 58 = .ok (.iconst 0, 1) := by decide +kernel
theorem dX10_chances_59 : decode cX10_chances 59 = .ok (.dup2, 1) := by decide +kernel
theorem dX10_chances_60 : decode cX10_chances 60 = .ok (.iaload, 1) := by decide +kernel
theorem dX10_chances_61 : decode cX10_chances 61 = .ok (.iconst 1, 1) := by decide +kernel
theorem dX10_chances_62 : decode cX10_chances 62 = .ok (.bipush 6, 2) := by decide +kernel
theorem dX10_chances_64 : decode cX10_chances 64 = .ok (.aload_n 0, 1) := by decide +kernel
theorem dX10_chances_65 : decode cX10_chances 65 = .ok (.getfield 13, 3) := by decide +kernel
theorem dX10_chances_68 : decode cX10_chances 68 = .ok (.aload_n 0, 1) := by decide +kernel
theorem dX10_chances_69 : decode cX10_chances 69 = .ok (.getfield 57, 3) := by decide +kernel
theorem dX10_chances_72 : decode cX10_chances 72 = .ok (.bipush 40, 2) := by decide +kernel
theorem dX10_chances_74 : decode cX10_chances 74 = .ok (.aload_n 0, 1) := by decide +kernel
theorem dX10_chances_75 : decode cX10_chances 75 = .ok (.getfield 105, 3) := by decide +kernel
theorem dX10_chances_78 : decode cX10_chances 78 = .ok (.imul, 1) := by decide +kernel
theorem dX10_chances_79 : decode cX10_chances 79 = .ok (.iload_n 1, 1) := by decide +kernel
theorem dX10_chances_80 : decode cX10_chances 80 = .ok (.iadd, 1) := by decide +kernel
theorem dX10_chances_81 : decode cX10_chances 81 = .ok (.iaload, 1) := by decide +kernel
theorem dX10_chances_82 : decode cX10_chances 82 = .ok (.iaload, 1) := by decide +kernel
theorem dX10_chances_83 : decode cX10_chances 83 = .ok (.imul, 1) := by decide +kernel
theorem dX10_chances_84 : decode cX10_chances 84 = .ok (.ishl, 1) := by decide +kernel
theorem dX10_chances_85 : decode cX10_chances 85 = .ok (.iadd, 1) := by decide +kernel
theorem dX10_chances_86 : decode cX10_chances 86 = .ok (.iastore, 1) := by decide +kernel
theorem dX10_chances_87 : decode cX10_chances 87 = .ok (.iinc 1 1, 3) := by decide +kernel
theorem dX10_chances_90 : decode cX10_chances 90 = .ok (.goto (-49), 3) := by decide +kernel
theorem dX10_chances_93 : decode cX10_chances 93 = .ok (.aload_n 0, 1) := by decide +kernel
theorem dX10_chances_94 : decode cX10_chances 94 = .ok (.lconst 0, 1) := by decide +kernel
theorem dX10_chances_95 : decode cX10_chances 95 = .ok (.putfield 239, 3) := by decide +kernel
theorem dX10_chances_98 : decode cX10_chances 98 = .ok (.iconst 0, 1) := by decide +kernel
theorem dX10_chances_99 : decode cX10_chances 99 = .ok (.istore_n 1, 1) := by decide +kernel
theorem dX10_chances_100 : decode cX10_chances 100 = .ok (.iload_n 1, 1) := by decide +kernel
theorem dX10_chances_101 : decode cX10_chances 101 = .ok (.bipush 40, 2) := by decide +kernel
theorem dX10_chances_103 : decode cX10_chances 103 = .ok (.if_icmp .ge 16, 3) := by decide +kernel
theorem dX10_chances_106 : decode cX10_chances 106 = .ok (.aload_n 0, 1) := by decide +kernel
theorem dX10_chances_107 : decode cX10_chances 107 = .ok (.getfield 95, 3) := by decide +kernel
theorem dX10_chances_110 : decode cX10_chances 110 = .ok (.iload_n 1, 1) := by decide +kernel
theorem dX10_chances_111 : decode cX10_chances 111 = .ok (.lconst 0, 1) := by decide +kernel
theorem dX10_chances_112 : decode cX10_chances 112 = .ok (.lastore, 1) := by decide +kernel
theorem dX10_chances_113 : decode cX10_chances 113 = .ok (.iinc 1 1, 3) := by decide +kernel
theorem dX10_chances_116 : decode cX10_chances 116 = .ok (.goto (-16), 3) := by decide +kernel
theorem dX10_chances_119 : decode cX10_chances 119 = .ok (.lconst 1, 1) := by decide +kernel
theorem dX10_chances_120 : decode cX10_chances 120 = .ok (.lstore_n 1, 1) := by decide +kernel
theorem dX10_chances_121 : decode cX10_chances 121 = .ok (.aload_n 0, 1) := by decide +kernel
theorem dX10_chances_122 : decode cX10_chances 122 = .ok (.getfield 105, 3) := by decide +kernel
theorem dX10_chances_125 : decode cX10_chances 125 = .ok (.istore_n 3, 1) := by decide +kernel
theorem dX10_chances_126 : decode cX10_chances 126 = .ok (.iload_n 3, 1) := by decide +kernel
theorem dX10_chances_127 : decode cX10_chances 127 = .ok (.aload_n 0, 1) := by decide +kernel
theorem dX10_chances_128 : decode cX10_chances 128 = .ok (.getfield 171, 3) := by decide +kernel
theorem dX10_chances_131 : decode cX10_chances 131 = .ok (.if_icmp .ge 351, 3) := by decide +kernel
theorem dX10_chances_134 : decode cX10_chances 134 = .ok (.iload_n 3, 1) := by decide +kernel
theorem dX10_chances_135 : decode cX10_chances 135 = .ok (.aload_n 0, 1) := by decide +kernel
theorem dX10_chances_136 : decode cX10_chances 136 = .ok (.getfield 105, 3) := by decide +kernel
theorem dX10_chances_139 : decode cX10_chances 139 = .ok (.if_icmp .ne 15, 3) := by decide +kernel
theorem dX10_chances_142 : decode cX10_chances 142 = .ok (.aload_n 0, 1) := by decide +kernel
theorem dX10_chances_143 : decode cX10_chances 143 = .ok (.getfield 54, 3) := by decide +kernel
theorem dX10_chances_146 : decode cX10_chances 146 = .ok (.aload_n 0, 1) := by decide +kernel
theorem dX10_chances_147 : decode cX10_chances 147 = .ok (.getfield 105, 3) := by decide +kernel
theorem dX10_chances_150 : decode cX10_chances 150 = .ok (.iaload, 1) := by decide +kernel
theorem dX10_chances_151 : decode cX10_chances 151 = .ok (.goto 11, 3) := by decide +kernel
theorem dX10_chances_154 : decode cX10_chances 154 = .ok (.aload_n 0, 1) := by decide +kernel
theorem dX10_chances_155 : decode cX10_chances 155 = .ok (.getfield 33, 3) := by decide +kernel
theorem dX10_chances_158 : decode cX10_chances 158 = .ok (.iload_n 3, 1) := by decide +kernel
theorem dX10_chances_159 : decode cX10_chances 159 = .ok (.iconst 1, 1) := by decide +kernel
theorem dX10_chances_160 : decode cX10_chances 160 = .ok (.isub, 1) := by decide +kernel
theorem dX10_chances_161 : decode cX10_chances 161 = .ok (.iaload, 1) := by decide +kernel
theorem dX10_chances_162 : decode cX10_chances 162 = .ok (.istore 4, 2) := by decide +kernel
theorem dX10_chances_164 : decode cX10_chances 164 = .ok (.aload_n 0, 1) := by decide +kernel
theorem dX10_chances_165 : decode cX10_chances 165 = .ok (.getfield 30, 3) := by decide +kernel
theorem dX10_chances_168 : decode cX10_chances 168 = .ok (.iload_n 3, 1) := by decide +kernel
theorem dX10_chances_169 : decode cX10_chances 169 = .ok (.iaload, 1) := by decide +kernel
theorem dX10_chances_170 : decode cX10_chances 170 = .ok (.ifCond .ne 14, 3) := by decide +kernel
theorem dX10_chances_173 : decode cX10_chances 173 = .ok (.iload 4, 2) := by decide +kernel
theorem dX10_chances_175 : decode cX10_chances 175 = .ok (.aload_n 0, 1) := by decide +kernel
theorem dX10_chances_176 : decode cX10_chances 176 = .ok (.getfield 33, 3) := by decide +kernel
theorem dX10_chances_179 : decode cX10_chances 179 = .ok (.iload_n 3, 1) := by decide +kernel
theorem dX10_chances_180 : decode cX10_chances 180 = .ok (.iaload, 1) := by decide +kernel
theorem dX10_chances_181 : decode cX10_chances 181 = .ok (.if_icmp .ge 7, 3) := by decide +kernel
theorem dX10_chances_184 : decode cX10_chances 184 = .ok (.lconst 1, 1) := by decide +kernel
theorem dX10_chances_185 : decode cX10_chances 185 = .ok (.goto 14, 3) := by decide +kernel
theorem dX10_chances_188 : decode cX10_chances 188 = .ok (.iload 4, 2) := by decide +kernel
theorem dX10_chances_190 : decode cX10_chances 190 = .ok (.aload_n 0, 1) := by decide +kernel
theorem dX10_chances_191 : decode cX10_chances 191 = .ok (.getfield 33, 3) := by decide +kernel
theorem dX10_chances_194 : decode cX10_chances 194 = .ok (.iload_n 3, 1) := by decide +kernel
theorem dX10_chances_195 : decode cX10_chances 195 = .ok (.iaload, 1) := by decide +kernel
theorem dX10_chances_196 : decode cX10_chances 196 = .ok (.invokestatic 218, 3) := by decide +kernel
theorem dX10_chances_199 : decode cX10_chances 199 = .ok (.lstore 5, 2) := by decide +kernel
theorem dX10_chances_201 : decode cX10_chances 201 = .ok (.lload_n 1, 1) := by decide +kernel
theorem dX10_chances_202 : decode cX10_chances 202 = .ok (.lload 5, 2) := by decide +kernel
theorem dX10_chances_204 : decode cX10_chances 204 = .ok (.invokestatic 222, 3) := by decide +kernel
theorem dX10_chances_207 : decode cX10_chances 207 = .ok (.lstore_n 1, 1) := by decide +kernel
theorem dX10_chances_208 : decode cX10_chances 208 = .ok (.lload_n 1, 1) := by decide +kernel
theorem dX10_chances_209 : decode cX10_chances 209 = .ok (.ldc2_w 213, 3) := by decide +kernel
theorem dX10_chances_212 : decode cX10_chances 212 = .ok (.lcmp, 1) := by decide +kernel
theorem dX10_chances_213 : decode cX10_chances 213 = .ok (.ifCond .le 6, 3) := by decide +kernel
theorem dX10_chances_216 : decode cX10_chances 216 = .ok (.bipush (-2), 2) := by decide +kernel
theorem dX10_chances_218 : decode cX10_chances 218 = .ok (.ireturn, 1) := by decide +kernel
theorem dX10_chances_219 : decode cX10_chances 219 = .ok (.aload_n 0, 1) := by decide +kernel
theorem dX10_chances_220 : decode cX10_chances 220 = .ok (.aload_n 0, 1) := by decide +kernel
theorem dX10_chances_221 : decode cX10_chances 221 = .ok (.getfield 239, 3) := by decide +kernel
theorem dX10_chances_224 : decode cX10_chances 224 = .ok (.lload 5, 2) := by decide +kernel
theorem dX10_chances_226 : decode cX10_chances 226 = .ok (.invokestatic 222, 3) := by decide +kernel
theorem dX10_chances_229 : decode cX10_chances 229 = .ok (.putfield 239, 3) := by decide +kernel
theorem dX10_chances_232 : decode cX10_chances 232 = .ok (.aload_n 0, 1) := by decide +kernel
theorem dX10_chances_233 : decode cX10_chances 233 = .ok (.iconst 0, 1) := by decide +kernel
theorem dX10_chances_234 : decode cX10_chances 234 = .ok (.putfield 215, 3) := by decide +kernel
theorem dX10_chances_237 : decode cX10_chances 237 = .ok (.iconst 0, 1) := by decide +kernel
theorem dX10_chances_238 : decode cX10_chances 238 = .ok (.istore 7, 2) := by decide +kernel
theorem dX10_chances_240 : decode cX10_chances 240 = .ok (.iload 7, 2) := by decide +kernel
theorem dX10_chances_242 : decode cX10_chances 242 = .ok (.aload_n 0, 1) := by decide +kernel
theorem dX10_chances_243 : decode cX10_chances 243 = .ok (.getfield 236, 3) := by decide +kernel
theorem dX10_chances_246 : decode cX10_chances 246 = .ok (.if_icmp .ge 176, 3) := by decide +kernel
theorem dX10_chances_249 : decode cX10_chances 249 = .ok (.aload_n 0, 1) := by decide +kernel
theorem dX10_chances_250 : decode cX10_chances 250 = .ok (.getfield 30, 3) := by decide +kernel
theorem dX10_chances_253 : decode cX10_chances 253 = .ok (.iload_n 3, 1) := by decide +kernel
theorem dX10_chances_254 : decode cX10_chances 254 = .ok (.iaload, 1) := by decide +kernel
theorem dX10_chances_255 : decode cX10_chances 255 = .ok (.ifCond .ne 71, 3) := by decide +kernel
theorem dX10_chances_258 : decode cX10_chances 258 = .ok (.aload_n 0, 1) := by decide +kernel
theorem dX10_chances_259 : decode cX10_chances 259 = .ok (.getfield 79, 3) := by decide +kernel
theorem dX10_chances_262 : decode cX10_chances 262 = .ok (.iload 7, 2) := by decide +kernel
theorem dX10_chances_264 : decode cX10_chances 264 = .ok (.iaload, 1) := by decide +kernel
theorem dX10_chances_265 : decode cX10_chances 265 = .ok (.invokestatic 243, 3) := by decide +kernel
theorem dX10_chances_268 : decode cX10_chances 268 = .ok (.aload_n 0, 1) := by decide +kernel
theorem dX10_chances_269 : decode cX10_chances 269 = .ok (.getfield 33, 3) := by decide +kernel
theorem dX10_chances_272 : decode cX10_chances 272 = .ok (.iload_n 3, 1) := by decide +kernel
theorem dX10_chances_273 : decode cX10_chances 273 = .ok (.iaload, 1) := by decide +kernel
theorem dX10_chances_274 : decode cX10_chances 274 = .ok (.if_icmp .ge 22, 3) := by decide +kernel
theorem dX10_chances_277 : decode cX10_chances 277 = .ok (.aload_n 0, 1) := by decide +kernel
theorem dX10_chances_278 : decode cX10_chances 278 = .ok (.dup, 1) := by decide +kernel
theorem dX10_chances_279 : decode cX10_chances 279 = .ok (.getfield 239, 3) := by decide +kernel
theorem dX10_chances_282 : decode cX10_chances 282 = .ok (.aload_n 0, 1) := by decide +kernel
theorem dX10_chances_283 : decode cX10_chances 283 = .ok (.getfield 82, 3) := by decide +kernel
theorem dX10_chances_286 : decode cX10_chances 286 = .ok (.iload 7, 2) := by decide +kernel
theorem dX10_chances_288 : decode cX10_chances 288 = .ok (.laload, 1) := by decide +kernel
theorem dX10_chances_289 : decode cX10_chances 289 = .ok (.ladd, 1) := by decide +kernel
theorem dX10_chances_290 : decode cX10_chances 290 = .ok (.putfield 239, 3) := by decide +kernel
theorem dX10_chances_293 : decode cX10_chances 293 = .ok (.goto 123, 3) := by decide +kernel
theorem dX10_chances_296 : decode cX10_chances 296 = .ok (.aload_n 0, 1) := by decide +kernel
theorem dX10_chances_297 : decode cX10_chances 297 = .ok (.aload_n 0, 1) := by decide +kernel
theorem dX10_chances_298 : decode cX10_chances 298 = .ok (.getfield 79, 3) := by decide +kernel
theorem dX10_chances_301 : decode cX10_chances 301 = .ok (.iload 7, 2) := by decide +kernel
theorem dX10_chances_303 : decode cX10_chances 303 = .ok (.iaload, 1) := by decide +kernel
theorem dX10_chances_304 : decode cX10_chances 304 = .ok (.aload_n 0, 1) := by decide +kernel
theorem dX10_chances_305 : decode cX10_chances 305 = .ok (.getfield 82, 3) := by decide +kernel
theorem dX10_chances_308 : decode cX10_chances 308 = .ok (.iload 7, 2) := by decide +kernel
theorem dX10_chances_310 : decode cX10_chances 310 = .ok (.laload, 1) := by decide +kernel
theorem dX10_chances_311 : decode cX10_chances 311 = .ok (.aload_n 0, 1) := by decide +kernel
theorem dX10_chances_312 : decode cX10_chances 312 = .ok (.getfield 33, 3) := by decide +kernel
theorem dX10_chances_315 : decode cX10_chances 315 = .ok (.iload_n 3, 1) := by decide +kernel
theorem dX10_chances_316 : decode cX10_chances 316 = .ok (.iaload, 1) := by decide +kernel
theorem dX10_chances_317 : decode cX10_chances 317 = .ok (.invokevirtual 246, 3) := by decide +kernel
theorem dX10_chances_320 : decode cX10_chances 320 = .ok (.ifCond .ne 96, 3) := by decide +kernel
theorem dX10_chances_323 : decode cX10_chances 323 = .ok (.bipush (-2), 2) := by decide +kernel
theorem dX10_chances_325 : decode cX10_chances 325 = .ok (.ireturn, 1) := by decide +kernel
theorem dX10_chances_326 : decode cX10_chances 326 = .ok (.aload_n 0, 1) := by decide +kernel
theorem dX10_chances_327 : decode cX10_chances 327 = .ok (.aload_n 0, 1) := by decide +kernel
theorem dX10_chances_328 : decode cX10_chances 328 = .ok (.getfield 79, 3) := by decide +kernel
theorem dX10_chances_331 : decode cX10_chances 331 = .ok (.iload 7, 2) := by decide +kernel
theorem dX10_chances_333 : decode cX10_chances 333 = .ok (.iaload, 1) := by decide +kernel
theorem dX10_chances_334 : decode cX10_chances 334 = .ok (.iload_n 3, 1) := by decide +kernel
theorem dX10_chances_335 : decode cX10_chances 335 = .ok (.invokevirtual 250, 3) := by decide +kernel
theorem dX10_chances_338 : decode cX10_chances 338 = .ok (.istore 8, 2) := by decide +kernel
theorem dX10_chances_340 : decode cX10_chances 340 = .ok (.iload 8, 2) := by decide +kernel
theorem dX10_chances_342 : decode cX10_chances 342 = .ok (.iconst (-1), 1) := by decide +kernel
theorem dX10_chances_343 : decode cX10_chances 343 = .ok (.if_icmp .ne 22, 3) := by decide +kernel
theorem dX10_chances_346 : decode cX10_chances 346 = .ok (.aload_n 0, 1) := by decide +kernel
theorem dX10_chances_347 : decode cX10_chances 347 = .ok (.dup, 1) := by decide +kernel
theorem dX10_chances_348 : decode cX10_chances 348 = .ok (.getfield 239, 3) := by decide +kernel
theorem dX10_chances_351 : decode cX10_chances 351 = .ok (.aload_n 0, 1) := by decide +kernel
theorem dX10_chances_352 : decode cX10_chances 352 = .ok (.getfield 82, 3) := by decide +kernel
theorem dX10_chances_355 : decode cX10_chances 355 = .ok (.iload 7, 2) := by decide +kernel
theorem dX10_chances_357 : decode cX10_chances 357 = .ok (.laload, 1) := by decide +kernel
theorem dX10_chances_358 : decode cX10_chances 358 = .ok (.ladd, 1) := by decide +kernel
theorem dX10_chances_359 : decode cX10_chances 359 = .ok (.putfield 239, 3) := by decide +kernel
theorem dX10_chances_362 : decode cX10_chances 362 = .ok (.goto 54, 3) := by decide +kernel
theorem dX10_chances_365 : decode cX10_chances 365 = .ok (.aload_n 0, 1) := by decide +kernel
theorem dX10_chances_366 : decode cX10_chances 366 = .ok (.getfield 30, 3) := by decide +kernel
theorem dX10_chances_369 : decode cX10_chances 369 = .ok (.iload_n 3, 1) := by decide +kernel
theorem dX10_chances_370 : decode cX10_chances 370 = .ok (.iaload, 1) := by decide +kernel
theorem dX10_chances_371 : decode cX10_chances 371 = .ok (.iconst 2, 1) := by decide +kernel
theorem dX10_chances_372 : decode cX10_chances 372 = .ok (.if_icmp .ne 25, 3) := by decide +kernel
theorem dX10_chances_375 : decode cX10_chances 375 = .ok (.aload_n 0, 1) := by decide +kernel
theorem dX10_chances_376 : decode cX10_chances 376 = .ok (.getfield 95, 3) := by decide +kernel
theorem dX10_chances_379 : decode cX10_chances 379 = .ok (.aload_n 0, 1) := by decide +kernel
theorem dX10_chances_380 : decode cX10_chances 380 = .ok (.getfield 233, 3) := by decide +kernel
theorem dX10_chances_383 : decode cX10_chances 383 = .ok (.dup2, 1) := by decide +kernel
theorem dX10_chances_384 : decode cX10_chances 384 = .ok (.laload, 1) := by decide +kernel
theorem dX10_chances_385 : decode cX10_chances 385 = .ok (.aload_n 0, 1) := by decide +kernel
theorem dX10_chances_386 : decode cX10_chances 386 = .ok (.getfield 82, 3) := by decide +kernel
theorem dX10_chances_389 : decode cX10_chances 389 = .ok (.iload 7, 2) := by decide +kernel
theorem dX10_chances_391 : decode cX10_chances 391 = .ok (.laload, 1) := by decide +kernel
theorem dX10_chances_392 : decode cX10_chances 392 = .ok (.ladd, 1) := by decide +kernel
theorem dX10_chances_393 : decode cX10_chances 393 = .ok (.lastore, 1) := by decide +kernel
theorem dX10_chances_394 : decode cX10_chances 394 = .ok (.goto 22, 3) := by decide +kernel
theorem dX10_chances_397 : decode cX10_chances 397 = .ok (.aload_n 0, 1) := by decide +kernel
theorem dX10_chances_398 : decode cX10_chances 398 = .ok (.iload 8, 2) := by decide +kernel
theorem dX10_chances_400 : decode cX10_chances 400 = .ok (.aload_n 0, 1) := by decide +kernel
theorem dX10_chances_401 : decode cX10_chances 401 = .ok (.getfield 82, 3) := by decide +kernel
theorem dX10_chances_404 : decode cX10_chances 404 = .ok (.iload 7, 2) := by decide +kernel
theorem dX10_chances_406 : decode cX10_chances 406 = .ok (.laload, 1) := by decide +kernel
theorem dX10_chances_407 : decode cX10_chances 407 = .ok (.invokevirtual 226, 3) := by decide +kernel
theorem dX10_chances_410 : decode cX10_chances 410 = .ok (.ifCond .ne 6, 3) := by decide +kernel
theorem dX10_chances_413 : decode cX10_chances 413 = .ok (.bipush (-2), 2) := by decide +kernel
theorem dX10_chances_415 : decode cX10_chances 415 = .ok (.ireturn, 1) := by decide +kernel
theorem dX10_chances_416 : decode cX10_chances 416 = .ok (.iinc 7 1, 3) := by decide +kernel
theorem dX10_chances_419 : decode cX10_chances 419 = .ok (.goto (-179), 3) := by decide +kernel
theorem dX10_chances_422 : decode cX10_chances 422 = .ok (.aload_n 0, 1) := by decide +kernel
theorem dX10_chances_423 : decode cX10_chances 423 = .ok (.aload_n 0, 1) := by decide +kernel
theorem dX10_chances_424 : decode cX10_chances 424 = .ok (.getfield 215, 3) := by decide +kernel
theorem dX10_chances_427 : decode cX10_chances 427 = .ok (.putfield 236, 3) := by decide +kernel
theorem dX10_chances_430 : decode cX10_chances 430 = .ok (.iconst 0, 1) := by decide +kernel
theorem dX10_chances_431 : decode cX10_chances 431 = .ok (.istore 7, 2) := by decide +kernel
theorem dX10_chances_433 : decode cX10_chances 433 = .ok (.iload 7, 2) := by decide +kernel
theorem dX10_chances_435 : decode cX10_chances 435 = .ok (.aload_n 0, 1) := by decide +kernel
theorem dX10_chances_436 : decode cX10_chances 436 = .ok (.getfield 236, 3) := by decide +kernel
theorem dX10_chances_439 : decode cX10_chances 439 = .ok (.if_icmp .ge 37, 3) := by decide +kernel
theorem dX10_chances_442 : decode cX10_chances 442 = .ok (.aload_n 0, 1) := by decide +kernel
theorem dX10_chances_443 : decode cX10_chances 443 = .ok (.getfield 79, 3) := by decide +kernel
theorem dX10_chances_446 : decode cX10_chances 446 = .ok (.iload 7, 2) := by decide +kernel
theorem dX10_chances_448 : decode cX10_chances 448 = .ok (.aload_n 0, 1) := by decide +kernel
theorem dX10_chances_449 : decode cX10_chances 449 = .ok (.getfield 86, 3) := by decide +kernel
theorem dX10_chances_452 : decode cX10_chances 452 = .ok (.iload 7, 2) := by decide +kernel
theorem dX10_chances_454 : decode cX10_chances 454 = .ok (.iaload, 1) := by decide +kernel
theorem dX10_chances_455 : decode cX10_chances 455 = .ok (.iastore, 1) := by decide +kernel
theorem dX10_chances_456 : decode cX10_chances 456 = .ok (.aload_n 0, 1) := by decide +kernel
theorem dX10_chances_457 : decode cX10_chances 457 = .ok (.getfield 82, 3) := by decide +kernel
theorem dX10_chances_460 : decode cX10_chances 460 = .ok (.iload 7, 2) := by decide +kernel
theorem dX10_chances_462 : decode cX10_chances 462 = .ok (.aload_n 0, 1) := by decide +kernel
theorem dX10_chances_463 : decode cX10_chances 463 = .ok (.getfield 89, 3) := by decide +kernel
theorem dX10_chances_466 : decode cX10_chances 466 = .ok (.iload 7, 2) := by decide +kernel
theorem dX10_chances_468 : decode cX10_chances 468 = .ok (.laload, 1) := by decide +kernel
theorem dX10_chances_469 : decode cX10_chances 469 = .ok (.lastore, 1) := by decide +kernel
theorem dX10_chances_470 : decode cX10_chances 470 = .ok (.iinc 7 1, 3) := by decide +kernel
theorem dX10_chances_473 : decode cX10_chances 473 = .ok (.goto (-40), 3) := by decide +kernel
theorem dX10_chances_476 : decode cX10_chances 476 = .ok (.iinc 3 1, 3) := by decide +kernel
theorem dX10_chances_479 : decode cX10_chances 479 = .ok (.goto (-353), 3) := by decide +kernel
theorem dX10_chances_482 : decode cX10_chances 482 = .ok (.aload_n 0, 1) := by decide +kernel
theorem dX10_chances_483 : decode cX10_chances 483 = .ok (.iconst 1, 1) := by decide +kernel
theorem dX10_chances_484 : decode cX10_chances 484 = .ok (.putfield 253, 3) := by decide +kernel
theorem dX10_chances_487 : decode cX10_chances 487 = .ok (.iconst 0, 1) := by decide +kernel
theorem dX10_chances_488 : decode cX10_chances 488 = .ok (.istore_n 3, 1) := by decide +kernel
theorem dX10_chances_489 : decode cX10_chances 489 = .ok (.iload_n 3, 1) := by decide +kernel
theorem dX10_chances_490 : decode cX10_chances 490 = .ok (.bipush 40, 2) := by decide +kernel
theorem dX10_chances_492 : decode cX10_chances 492 = .ok (.if_icmp .ge 21, 3) := by decide +kernel
theorem dX10_chances_495 : decode cX10_chances 495 = .ok (.aload_n 0, 1) := by decide +kernel
theorem dX10_chances_496 : decode cX10_chances 496 = .ok (.getfield 92, 3) := by decide +kernel
theorem dX10_chances_499 : decode cX10_chances 499 = .ok (.iload_n 3, 1) := by decide +kernel
theorem dX10_chances_500 : decode cX10_chances 500 = .ok (.aload_n 0, 1) := by decide +kernel
theorem dX10_chances_501 : decode cX10_chances 501 = .ok (.getfield 95, 3) := by decide +kernel
theorem dX10_chances_504 : decode cX10_chances 504 = .ok (.iload_n 3, 1) := by decide +kernel
theorem dX10_chances_505 : decode cX10_chances 505 = .ok (.laload, 1) := by decide +kernel
theorem dX10_chances_506 : decode cX10_chances 506 = .ok (.lastore, 1) := by decide +kernel
theorem dX10_chances_507 : decode cX10_chances 507 = .ok (.iinc 3 1, 3) := by decide +kernel
theorem dX10_chances_510 : decode cX10_chances 510 = .ok (.goto (-21), 3) := by decide +kernel
theorem dX10_chances_513 : decode cX10_chances 513 = .ok (.aload_n 0, 1) := by decide +kernel
theorem dX10_chances_514 : decode cX10_chances 514 = .ok (.getfield 92, 3) := by decide +kernel
theorem dX10_chances_517 : decode cX10_chances 517 = .ok (.bipush 40, 2) := by decide +kernel
theorem dX10_chances_519 : decode cX10_chances 519 = .ok (.aload_n 0, 1) := by decide +kernel
theorem dX10_chances_520 : decode cX10_chances 520 = .ok (.getfield 239, 3) := by decide +kernel
theorem dX10_chances_523 : decode cX10_chances 523 = .ok (.lastore, 1) := by decide +kernel
theorem dX10_chances_524 : decode cX10_chances 524 = .ok (.aload_n 0, 1) := by decide +kernel
theorem dX10_chances_525 : decode cX10_chances 525 = .ok (.getfield 92, 3) := by decide +kernel
theorem dX10_chances_528 : decode cX10_chances 528 = .ok (.bipush 41, 2) := by decide +kernel
theorem dX10_chances_530 : decode cX10_chances 530 = .ok (.lload_n 1, 1) := by decide +kernel
theorem dX10_chances_531 : decode cX10_chances 531 = .ok (.lastore, 1) := by decide +kernel
theorem dX10_chances_532 : decode cX10_chances 532 = .ok (.iconst 0, 1) := by decide +kernel
theorem dX10_chances_533 : decode cX10_chances 533 = .ok (.ireturn, 1) := by decide +kernel
set_option maxRecDepth 20000 in
theorem ggX10_ways_X10_in : GoodIn wsX10_ways wsX10_in := goodIn_r _ [7] (by decide +kernel) (by decide +kernel)
set_option maxRecDepth 20000 in
theorem gX10_ways_X10_in : GoodIn wsX10_ways (va_wsS RX10 101 yX10_in wsX10_in) := goodIn_app (goodIn_of _ (by decide +kernel)) ggX10_ways_X10_in
theorem dX10_ways_0 : decode cX10_ways 0 = .ok (.aload_n 0, 1) := by decide +kernel
theorem dX10_ways_1 : decode cX10_ways 1 = .ok (.getfield 253, 3) := by decide +kernel
theorem dX10_ways_4 : decode cX10_ways 4 = .ok (.ifCond .eq 22, 3) := by decide +kernel
theorem dX10_ways_7 : decode cX10_ways 7 = .ok (.iload_n 1, 1) := by decide +kernel
theorem dX10_ways_8 : decode cX10_ways 8 = .ok (.iconst 0, 1) := by decide +kernel
theorem dX10_ways_9 : decode cX10_ways 9 = .ok (.bipush 41, 2) := by decide +kernel
theorem dX10_ways_11 : decode cX10_ways 11 = .ok (.invokestatic 101, 3) := by decide +kernel
theorem dX10_ways_14 : decode cX10_ways 14 = .ok (.ifCond .eq 12, 3) := by decide +kernel
theorem dX10_ways_17 : decode cX10_ways 17 = .ok (.aload_n 0, 1) := by decide +kernel
theorem dX10_ways_18 : decode cX10_ways 18 = .ok (.getfield 92, 3) := by decide +kernel
theorem dX10_ways_21 : decode cX10_ways 21 = .ok (.iload_n 1, 1) := by decide +kernel
theorem dX10_ways_22 : decode cX10_ways 22 = .ok (.laload, 1) := by decide +kernel
theorem dX10_ways_23 : decode cX10_ways 23 = .ok (.goto 6, 3) := by decide +kernel
theorem dX10_ways_26 : decode cX10_ways 26 = .ok (.ldc2_w 257, 3) := by decide +kernel
theorem dX10_ways_29 : decode cX10_ways 29 = .ok (.lreturn, 1) := by decide +kernel
set_option maxRecDepth 20000 in
theorem ggX10_about_X10_isCitizen : GoodIn wsX10_about wsX10_isCitizen := goodIn_r _ [10, 1, 11, 12, 9, 13, 14, 15, 16, 17, 18, 19, 20, 21, 22, 23, 24, 25, 26, 27, 28, 29, 30, 31, 32, 33, 34, 35, 36, 37, 38, 39, 40, 41, 42, 43, 44, 45, 46, 47, 48, 49, 50, 51, 52, 53, 54, 55, 56, 57, 58, 59, 60, 61, 62, 63] (by decide +kernel) (by decide +kernel)
set_option maxRecDepth 20000 in
theorem gX10_about_X10_isCitizen : GoodIn wsX10_about (wsV RX10 111 RX10 yX10_isCitizen wsX10_isCitizen) := goodIn_app (goodIn_of _ (by decide +kernel)) ggX10_about_X10_isCitizen
theorem dX10_about_0 : decode cX10_about 0 = .ok (.aload_n 0, 1) := by decide +kernel
theorem dX10_about_1 : decode cX10_about 1 = .ok (.iload_n 1, 1) := by decide +kernel
theorem dX10_about_2 : decode cX10_about 2 = .ok (.invokevirtual 111, 3) := by decide +kernel
theorem dX10_about_5 : decode cX10_about 5 = .ok (.ifCond .ne 5, 3) := by decide +kernel
theorem dX10_about_8 : decode cX10_about 8 = .ok (.iconst (-1), 1) := by decide +kernel
theorem dX10_about_9 : decode cX10_about 9 = .ok (.ireturn, 1) := by decide +kernel
theorem dX10_about_10 : decode cX10_about 10 = .ok (.iconst 0, 1) := by decide +kernel
theorem dX10_about_11 : decode cX10_about 11 = .ok (.istore_n 3, 1) := by decide +kernel
theorem dX10_about_12 : decode cX10_about 12 = .ok (.iconst 0, 1) := by decide +kernel
theorem dX10_about_13 : decode cX10_about 13 = .ok (.istore 4, 2) := by decide +kernel
theorem dX10_about_15 : decode cX10_about 15 = .ok (.iload 4, 2) := by decide +kernel
theorem dX10_about_17 : decode cX10_about 17 = .ok (.aload_n 0, 1) := by decide +kernel
theorem dX10_about_18 : decode cX10_about 18 = .ok (.getfield 98, 3) := by decide +kernel
theorem dX10_about_21 : decode cX10_about 21 = .ok (.if_icmp .ge 54, 3) := by decide +kernel
theorem dX10_about_24 : decode cX10_about 24 = .ok (.iload_n 3, 1) := by decide +kernel
theorem dX10_about_25 : decode cX10_about 25 = .ok (.iload 4, 2) := by decide +kernel
theorem dX10_about_27 : decode cX10_about 27 = .ok (.iload_n 1, 1) := by decide +kernel
theorem dX10_about_28 : decode cX10_about 28 = .ok (.if_icmp .eq 38, 3) := by decide +kernel
theorem dX10_about_31 : decode cX10_about 31 = .ok (.aload_n 0, 1) := by decide +kernel
theorem dX10_about_32 : decode cX10_about 32 = .ok (.getfield 7, 3) := by decide +kernel
theorem dX10_about_35 : decode cX10_about 35 = .ok (.iload 4, 2) := by decide +kernel
theorem dX10_about_37 : decode cX10_about 37 = .ok (.iaload, 1) := by decide +kernel
theorem dX10_about_38 : decode cX10_about 38 = .ok (.aload_n 0, 1) := by decide +kernel
theorem dX10_about_39 : decode cX10_about 39 = .ok (.getfield 7, 3) := by decide +kernel
theorem dX10_about_42 : decode cX10_about 42 = .ok (.iload_n 1, 1) := by decide +kernel
theorem dX10_about_43 : decode cX10_about 43 = .ok (.iaload, 1) := by decide +kernel
theorem dX10_about_44 : decode cX10_about 44 = .ok (.if_icmp .eq 18, 3) := by decide +kernel
theorem dX10_about_47 : decode cX10_about 47 = .ok (.aload_n 0, 1) := by decide +kernel
theorem dX10_about_48 : decode cX10_about 48 = .ok (.getfield 20, 3) := by decide +kernel
theorem dX10_about_51 : decode cX10_about 51 = .ok (.bipush 40, 2) := by decide +kernel
theorem dX10_about_53 : decode cX10_about 53 = .ok (.iload 4, 2) := by decide +kernel
theorem dX10_about_55 : decode cX10_about 55 = .ok (.imul, 1) := by decide +kernel
theorem dX10_about_56 : decode cX10_about 56 = .ok (.iload_n 1, 1) := by decide +kernel
theorem dX10_about_57 : decode cX10_about 57 = .ok (.iadd, 1) := by decide +kernel
theorem dX10_about_58 : decode cX10_about 58 = .ok (.baload, 1) := by decide +kernel
theorem dX10_about_59 : decode cX10_about 59 = .ok (.ifCond .eq 7, 3) := by decide +kernel
theorem dX10_about_62 : decode cX10_about 62 = .ok (.iconst 1, 1) := by decide +kernel
theorem dX10_about_63 : decode cX10_about 63 = .ok (.goto 4, 3) := by decide +kernel
theorem dX10_about_66 : decode cX10_about 66 = .ok (.iconst 0, 1) := by decide +kernel
theorem dX10_about_67 : decode cX10_about 67 = .ok (.iadd, 1) := by decide +kernel
theorem dX10_about_68 : decode cX10_about 68 = .ok (.istore_n 3, 1) := by decide +kernel
theorem dX10_about_69 : decode cX10_about 69 = .ok (.iinc 4 1, 3) := by decide +kernel
theorem dX10_about_72 : decode cX10_about 72 = .ok (.goto (-57), 3) := by decide +kernel
theorem dX10_about_75 : decode cX10_about 75 = .ok (.iload_n 2, 1) := by decide +kernel
theorem dX10_about_76 : decode cX10_about 76 = .ok (.tableswitch 63 0 3 #[32, 39, 46, 61], 32) := by decide +kernel
theorem dX10_about_108 : decode cX10_about 108 = .ok (.aload_n 0, 1) := by decide +kernel
theorem dX10_about_109 : decode cX10_about 109 = .ok (.getfield 7, 3) := by decide +kernel
theorem dX10_about_112 : decode cX10_about 112 = .ok (.iload_n 1, 1) := by decide +kernel
theorem dX10_about_113 : decode cX10_about 113 = .ok (.iaload, 1) := by decide +kernel
theorem dX10_about_114 : decode cX10_about 114 = .ok (.ireturn, 1) := by decide +kernel
theorem dX10_about_115 : decode cX10_about 115 = .ok (.aload_n 0, 1) := by decide +kernel
theorem dX10_about_116 : decode cX10_about 116 = .ok (.getfield 13, 3) := by decide +kernel
theorem dX10_about_119 : decode cX10_about 119 = .ok (.iload_n 1, 1) := by decide +kernel
theorem dX10_about_120 : decode cX10_about 120 = .ok (.iaload, 1) := by decide +kernel
theorem dX10_about_121 : decode cX10_about 121 = .ok (.ireturn, 1) := by decide +kernel
theorem dX10_about_122 : decode cX10_about 122 = .ok (.aload_n 0, 1) := by decide +kernel
theorem dX10_about_123 : decode cX10_about 123 = .ok (.getfield 16, 3) := by decide +kernel
theorem dX10_about_126 : decode cX10_about 126 = .ok (.iload_n 1, 1) := by decide +kernel
theorem dX10_about_127 : decode cX10_about 127 = .ok (.baload, 1) := by decide +kernel
theorem dX10_about_128 : decode cX10_about 128 = .ok (.ifCond .eq 7, 3) := by decide +kernel
theorem dX10_about_131 : decode cX10_about 131 = .ok (.iconst 1, 1) := by decide +kernel
theorem dX10_about_132 : decode cX10_about 132 = .ok (.goto 4, 3) := by decide +kernel
theorem dX10_about_135 : decode cX10_about 135 = .ok (.iconst 0, 1) := by decide +kernel
theorem dX10_about_136 : decode cX10_about 136 = .ok (.ireturn, 1) := by decide +kernel
theorem dX10_about_137 : decode cX10_about 137 = .ok (.iload_n 3, 1) := by decide +kernel
theorem dX10_about_138 : decode cX10_about 138 = .ok (.ireturn, 1) := by decide +kernel
theorem dX10_about_139 : decode cX10_about 139 = .ok (.iconst (-1), 1) := by decide +kernel
theorem dX10_about_140 : decode cX10_about 140 = .ok (.ireturn, 1) := by decide +kernel
set_option maxRecDepth 20000 in
theorem ggX10_count_X10_bodyNow : GoodIn wsX10_count wsX10_bodyNow := goodIn_r _ [13, 14, 15, 16, 17, 12, 18, 5, 19, 20, 21, 22, 23, 24, 25, 26, 27, 28, 29, 30, 31, 32, 33, 34, 35, 36, 37, 38, 39, 40, 41, 42, 43, 44, 45, 46, 47, 48, 49, 50, 51, 52, 53, 54, 55, 56, 57, 58, 59, 60, 61, 62, 63, 64, 65, 66, 67, 68, 69] (by decide +kernel) (by decide +kernel)
set_option maxRecDepth 20000 in
theorem gX10_count_X10_bodyNow : GoodIn wsX10_count (wsV RX10 199 RX10 yX10_bodyNow wsX10_bodyNow) := goodIn_app (goodIn_of _ (by decide +kernel)) ggX10_count_X10_bodyNow
theorem dX10_count_0 : decode cX10_count 0 = .ok (.iconst 0, 1) := by decide +kernel
theorem dX10_count_1 : decode cX10_count 1 = .ok (.istore_n 2, 1) := by decide +kernel
theorem dX10_count_2 : decode cX10_count 2 = .ok (.iload_n 1, 1) := by decide +kernel
theorem dX10_count_3 : decode cX10_count 3 = .ok (.tableswitch 124 0 8 #[49, 54, 89, 94, 99, 104, 109, 114, 119], 49) := by decide +kernel
theorem dX10_count_52 : decode cX10_count 52 = .ok (.aload_n 0, 1) := by decide +kernel
theorem dX10_count_53 : decode cX10_count 53 = .ok (.getfield 98, 3) := by decide +kernel
theorem dX10_count_56 : decode cX10_count 56 = .ok (.ireturn, 1) := by decide +kernel
theorem dX10_count_57 : decode cX10_count 57 = .ok (.iconst 0, 1) := by decide +kernel
theorem dX10_count_58 : decode cX10_count 58 = .ok (.istore_n 3, 1) := by decide +kernel
theorem dX10_count_59 : decode cX10_count 59 = .ok (.iload_n 3, 1) := by decide +kernel
theorem dX10_count_60 : decode cX10_count 60 = .ok (.aload_n 0, 1) := by decide +kernel
theorem dX10_count_61 : decode cX10_count 61 = .ok (.getfield 98, 3) := by decide +kernel
theorem dX10_count_64 : decode cX10_count 64 = .ok (.if_icmp .ge 26, 3) := by decide +kernel
theorem dX10_count_67 : decode cX10_count 67 = .ok (.iload_n 2, 1) := by decide +kernel
theorem dX10_count_68 : decode cX10_count 68 = .ok (.aload_n 0, 1) := by decide +kernel
theorem dX10_count_69 : decode cX10_count 69 = .ok (.getfield 16, 3) := by decide +kernel
theorem dX10_count_72 : decode cX10_count 72 = .ok (.iload_n 3, 1) := by decide +kernel
theorem dX10_count_73 : decode cX10_count 73 = .ok (.baload, 1) := by decide +kernel
theorem dX10_count_74 : decode cX10_count 74 = .ok (.ifCond .eq 7, 3) := by decide +kernel
theorem dX10_count_77 : decode cX10_count 77 = .ok (.iconst 1, 1) := by decide +kernel
theorem dX10_count_78 : decode cX10_count 78 = .ok (.goto 4, 3) := by decide +kernel
theorem dX10_count_81 : decode cX10_count 81 = .ok (.iconst 0, 1) := by decide +kernel
theorem dX10_count_82 : decode cX10_count 82 = .ok (.iadd, 1) := by decide +kernel
theorem dX10_count_83 : decode cX10_count 83 = .ok (.istore_n 2, 1) := by decide +kernel
theorem dX10_count_84 : decode cX10_count 84 = .ok (.iinc 3 1, 3) := by decide +kernel
theorem dX10_count_87 : decode cX10_count 87 = .ok (.goto (-28), 3) := by decide +kernel
theorem dX10_count_90 : decode cX10_count 90 = .ok (.iload_n 2, 1) := by decide +kernel
theorem dX10_count_91 : decode cX10_count 91 = .ok (.ireturn, 1) := by decide +kernel
theorem dX10_count_92 : decode cX10_count 92 = .ok (.aload_n 0, 1) := by decide +kernel
theorem dX10_count_93 : decode cX10_count 93 = .ok (.getfield 115, 3) := by decide +kernel
theorem dX10_count_96 : decode cX10_count 96 = .ok (.ireturn, 1) := by decide +kernel
theorem dX10_count_97 : decode cX10_count 97 = .ok (.aload_n 0, 1) := by decide +kernel
theorem dX10_count_98 : decode cX10_count 98 = .ok (.getfield 171, 3) := by decide +kernel
theorem dX10_count_101 : decode cX10_count 101 = .ok (.ireturn, 1) := by decide +kernel
theorem dX10_count_102 : decode cX10_count 102 = .ok (.aload_n 0, 1) := by decide +kernel
theorem dX10_count_103 : decode cX10_count 103 = .ok (.getfield 105, 3) := by decide +kernel
theorem dX10_count_106 : decode cX10_count 106 = .ok (.ireturn, 1) := by decide +kernel
theorem dX10_count_107 : decode cX10_count 107 = .ok (.aload_n 0, 1) := by decide +kernel
theorem dX10_count_108 : decode cX10_count 108 = .ok (.invokevirtual 199, 3) := by decide +kernel
theorem dX10_count_111 : decode cX10_count 111 = .ok (.ireturn, 1) := by decide +kernel
theorem dX10_count_112 : decode cX10_count 112 = .ok (.aload_n 0, 1) := by decide +kernel
theorem dX10_count_113 : decode cX10_count 113 = .ok (.getfield 174, 3) := by decide +kernel
theorem dX10_count_116 : decode cX10_count 116 = .ok (.ireturn, 1) := by decide +kernel
theorem dX10_count_117 : decode cX10_count 117 = .ok (.aload_n 0, 1) := by decide +kernel
theorem dX10_count_118 : decode cX10_count 118 = .ok (.getfield 177, 3) := by decide +kernel
theorem dX10_count_121 : decode cX10_count 121 = .ok (.ireturn, 1) := by decide +kernel
theorem dX10_count_122 : decode cX10_count 122 = .ok (.aload_n 0, 1) := by decide +kernel
theorem dX10_count_123 : decode cX10_count 123 = .ok (.getfield 118, 3) := by decide +kernel
theorem dX10_count_126 : decode cX10_count 126 = .ok (.ireturn, 1) := by decide +kernel
theorem dX10_count_127 : decode cX10_count 127 = .ok (.iconst (-1), 1) := by decide +kernel
theorem dX10_count_128 : decode cX10_count 128 = .ok (.ireturn, 1) := by decide +kernel
theorem dJ9_max_7cf53_0 : decode cJ9_max_7cf53 0 = .ok (.iload_n 0, 1) := by decide +kernel
theorem dJ9_max_7cf53_1 : decode cJ9_max_7cf53 1 = .ok (.iload_n 1, 1) := by decide +kernel
theorem dJ9_max_7cf53_2 : decode cJ9_max_7cf53 2 = .ok (.if_icmp .lt 7, 3) := by decide +kernel
theorem dJ9_max_7cf53_5 : decode cJ9_max_7cf53 5 = .ok (.iload_n 0, 1) := by decide +kernel
theorem dJ9_max_7cf53_6 : decode cJ9_max_7cf53 6 = .ok (.goto 4, 3) := by decide +kernel
theorem dJ9_max_7cf53_9 : decode cJ9_max_7cf53 9 = .ok (.iload_n 1, 1) := by decide +kernel
theorem dJ9_max_7cf53_10 : decode cJ9_max_7cf53 10 = .ok (.ireturn, 1) := by decide +kernel
theorem dJ9_min_7cf53_0 : decode cJ9_min_7cf53 0 = .ok (.iload_n 0, 1) := by decide +kernel
theorem dJ9_min_7cf53_1 : decode cJ9_min_7cf53 1 = .ok (.iload_n 1, 1) := by decide +kernel
theorem dJ9_min_7cf53_2 : decode cJ9_min_7cf53 2 = .ok (.if_icmp .gt 7, 3) := by decide +kernel
