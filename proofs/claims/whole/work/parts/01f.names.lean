theorem dX5_takeVotes_0 : decode cX5_takeVotes 0 = .ok (.aload_n 0, 1) := by decide +kernel
theorem dX5_takeVotes_1 : decode cX5_takeVotes 1 = .ok (.invokevirtual 34, 3) := by decide +kernel
theorem dX5_takeVotes_4 : decode cX5_takeVotes 4 = .ok (.aload_n 0, 1) := by decide +kernel
theorem dX5_takeVotes_5 : decode cX5_takeVotes 5 = .ok (.getfield 15, 3) := by decide +kernel
theorem dX5_takeVotes_8 : decode cX5_takeVotes 8 = .ok (.istore_n 1, 1) := by decide +kernel
theorem dX5_takeVotes_9 : decode cX5_takeVotes 9 = .ok (.aload_n 0, 1) := by decide +kernel
theorem dX5_takeVotes_10 : decode cX5_takeVotes 10 = .ok (.invokevirtual 37, 3) := by decide +kernel
theorem dX5_takeVotes_13 : decode cX5_takeVotes 13 = .ok (.iconst 4, 1) := by decide +kernel
theorem dX5_takeVotes_14 : decode cX5_takeVotes 14 = .ok (.if_icmp .eq 12, 3) := by decide +kernel
theorem dX5_takeVotes_17 : decode cX5_takeVotes 17 = .ok (.aload_n 0, 1) := by decide +kernel
theorem dX5_takeVotes_18 : decode cX5_takeVotes 18 = .ok (.iload_n 1, 1) := by decide +kernel
theorem dX5_takeVotes_19 : decode cX5_takeVotes 19 = .ok (.iconst 0, 1) := by decide +kernel
theorem dX5_takeVotes_20 : decode cX5_takeVotes 20 = .ok (.invokevirtual 41, 3) := by decide +kernel
theorem dX5_takeVotes_23 : decode cX5_takeVotes 23 = .ok (.pop, 1) := by decide +kernel
theorem dX5_takeVotes_24 : decode cX5_takeVotes 24 = .ok (.iconst 0, 1) := by decide +kernel
theorem dX5_takeVotes_25 : decode cX5_takeVotes 25 = .ok (.ireturn, 1) := by decide +kernel
theorem dX5_takeVotes_26 : decode cX5_takeVotes 26 = .ok (.aload_n 0, 1) := by decide +kernel
theorem dX5_takeVotes_27 : decode cX5_takeVotes 27 = .ok (.bipush 40, 2) := by decide +kernel
theorem dX5_takeVotes_29 : decode cX5_takeVotes 29 = .ok (.aload_n 0, 1) := by decide +kernel
theorem dX5_takeVotes_30 : decode cX5_takeVotes 30 = .ok (.getfield 19, 3) := by decide +kernel
theorem dX5_takeVotes_33 : decode cX5_takeVotes 33 = .ok (.invokevirtual 45, 3) := by decide +kernel
theorem dX5_takeVotes_36 : decode cX5_takeVotes 36 = .ok (.ireturn, 1) := by decide +kernel
set_option maxRecDepth 20000 in
theorem ggX5_takeHouseLimit_X5_skipBlanks : GoodIn wsX5_takeHouseLimit wsX5_skipBlanks := goodIn_r _ [7, 2, 1, 8, 9, 10, 11, 12, 13, 14, 15, 16, 17, 18, 91, 92, 93, 94, 95, 96] (by decide +kernel) (by decide +kernel)
set_option maxRecDepth 20000 in
theorem gX5_takeHouseLimit_X5_skipBlanks : GoodIn wsX5_takeHouseLimit (wsV RX5 34 RX5 yX5_skipBlanks wsX5_skipBlanks) := goodIn_app (goodIn_of _ (by decide +kernel)) ggX5_takeHouseLimit_X5_skipBlanks
set_option maxRecDepth 20000 in
theorem ggX5_takeHouseLimit_X8_at : GoodIn wsX5_takeHouseLimit wsX8_at := goodIn_r _ [17, 13, 18, 95, 96] (by decide +kernel) (by decide +kernel)
set_option maxRecDepth 20000 in
theorem gX5_takeHouseLimit_X8_at : GoodIn wsX5_takeHouseLimit (wsV RX5 66 RX8 yX8_at wsX8_at) := goodIn_app (goodIn_of _ (by decide +kernel)) ggX5_takeHouseLimit_X8_at
set_option maxRecDepth 20000 in
theorem ggX5_takeHouseLimit_X5_isLetter : GoodIn wsX5_takeHouseLimit wsX5_isLetter := goodIn_r _ [21] (by decide +kernel) (by decide +kernel)
set_option maxRecDepth 20000 in
theorem gX5_takeHouseLimit_X5_isLetter : GoodIn wsX5_takeHouseLimit (va_wsS RX5 72 yX5_isLetter wsX5_isLetter) := goodIn_app (goodIn_of _ (by decide +kernel)) ggX5_takeHouseLimit_X5_isLetter
set_option maxRecDepth 20000 in
theorem ggX5_takeHouseLimit_X5_takeWord : GoodIn wsX5_takeHouseLimit wsX5_takeWord := goodIn_r _ [25, 2, 1, 8, 9, 10, 11, 12, 13, 14, 15, 16, 17, 18, 19, 20, 6, 21, 26, 27, 28, 29, 30, 31, 32, 33, 34, 35, 36, 37, 38, 39, 40, 41, 42, 43, 44, 45, 46, 47, 48, 49, 50, 51, 52, 53, 54, 55, 56, 57, 58, 59, 60, 61, 62, 63, 64, 65, 66, 67, 68, 69, 70, 71, 72, 73, 74, 75, 76, 77, 78, 91, 92, 93, 94, 95, 96] (by decide +kernel) (by decide +kernel)
set_option maxRecDepth 20000 in
theorem gX5_takeHouseLimit_X5_takeWord : GoodIn wsX5_takeHouseLimit (wsV RX5 37 RX5 yX5_takeWord wsX5_takeWord) := goodIn_app (goodIn_of _ (by decide +kernel)) ggX5_takeHouseLimit_X5_takeWord
set_option maxRecDepth 20000 in
theorem ggX5_takeHouseLimit_X5_fail : GoodIn wsX5_takeHouseLimit wsX5_fail := goodIn_r _ [82, 83, 91, 92, 93, 94] (by decide +kernel) (by decide +kernel)
set_option maxRecDepth 20000 in
theorem gX5_takeHouseLimit_X5_fail : GoodIn wsX5_takeHouseLimit (wsV RX5 41 RX5 yX5_fail wsX5_fail) := goodIn_app (goodIn_of _ (by decide +kernel)) ggX5_takeHouseLimit_X5_fail
set_option maxRecDepth 20000 in
theorem ggX5_takeHouseLimit_X5_takeNumber : GoodIn wsX5_takeHouseLimit wsX5_takeNumber := goodIn_r _ [87, 2, 1, 3, 4, 5, 6, 7, 8, 9, 10, 11, 12, 13, 14, 15, 16, 17, 18, 88, 89, 90, 79, 80, 81, 82, 83, 91, 92, 93, 94, 95, 96] (by decide +kernel) (by decide +kernel)
set_option maxRecDepth 20000 in
theorem gX5_takeHouseLimit_X5_takeNumber : GoodIn wsX5_takeHouseLimit (wsV RX5 45 RX5 yX5_takeNumber wsX5_takeNumber) := goodIn_app (goodIn_of _ (by decide +kernel)) ggX5_takeHouseLimit_X5_takeNumber
theorem dX5_takeHouseLimit_0 : decode cX5_takeHouseLimit 0 = .ok (.aload_n 0, 1) := by decide +kernel
theorem dX5_takeHouseLimit_1 : decode cX5_takeHouseLimit 1 = .ok (.invokevirtual 34, 3) := by decide +kernel
theorem dX5_takeHouseLimit_4 : decode cX5_takeHouseLimit 4 = .ok (.aload_n 0, 1) := by decide +kernel
theorem dX5_takeHouseLimit_5 : decode cX5_takeHouseLimit 5 = .ok (.getfield 9, 3) := by decide +kernel
theorem dX5_takeHouseLimit_8 : decode cX5_takeHouseLimit 8 = .ok (.aload_n 0, 1) := by decide +kernel
theorem dX5_takeHouseLimit_9 : decode cX5_takeHouseLimit 9 = .ok (.getfield 15, 3) := by decide +kernel
theorem dX5_takeHouseLimit_12 : decode cX5_takeHouseLimit 12 = .ok (.invokevirtual 66, 3) := by decide +kernel
theorem dX5_takeHouseLimit_15 : decode cX5_takeHouseLimit 15 = .ok (.invokestatic 72, 3) := by decide +kernel
theorem dX5_takeHouseLimit_18 : decode cX5_takeHouseLimit 18 = .ok (.ifCond .ne 5, 3) := by decide +kernel
theorem dX5_takeHouseLimit_21 : decode cX5_takeHouseLimit 21 = .ok (.iconst 0, 1) := by decide +kernel
theorem dX5_takeHouseLimit_22 : decode cX5_takeHouseLimit 22 = .ok (.ireturn, 1) := by decide +kernel
theorem dX5_takeHouseLimit_23 : decode cX5_takeHouseLimit 23 = .ok (.aload_n 0, 1) := by decide +kernel
theorem dX5_takeHouseLimit_24 : decode cX5_takeHouseLimit 24 = .ok (.getfield 15, 3) := by decide +kernel
theorem dX5_takeHouseLimit_27 : decode cX5_takeHouseLimit 27 = .ok (.istore_n 1, 1) := by decide +kernel
theorem dX5_takeHouseLimit_28 : decode cX5_takeHouseLimit 28 = .ok (.aload_n 0, 1) := by decide +kernel
theorem dX5_takeHouseLimit_29 : decode cX5_takeHouseLimit 29 = .ok (.invokevirtual 37, 3) := by decide +kernel
theorem dX5_takeHouseLimit_32 : decode cX5_takeHouseLimit 32 = .ok (.iconst 5, 1) := by decide +kernel
theorem dX5_takeHouseLimit_33 : decode cX5_takeHouseLimit 33 = .ok (.if_icmp .eq 12, 3) := by decide +kernel
theorem dX5_takeHouseLimit_36 : decode cX5_takeHouseLimit 36 = .ok (.aload_n 0, 1) := by decide +kernel
theorem dX5_takeHouseLimit_37 : decode cX5_takeHouseLimit 37 = .ok (.iload_n 1, 1) := by decide +kernel
theorem dX5_takeHouseLimit_38 : decode cX5_takeHouseLimit 38 = .ok (.iconst 0, 1) := by decide +kernel
theorem dX5_takeHouseLimit_39 : decode cX5_takeHouseLimit 39 = .ok (.invokevirtual 41, 3) := by decide +kernel
theorem dX5_takeHouseLimit_42 : decode cX5_takeHouseLimit 42 = .ok (.pop, 1) := by decide +kernel
theorem dX5_takeHouseLimit_43 : decode cX5_takeHouseLimit 43 = .ok (.iconst 0, 1) := by decide +kernel
theorem dX5_takeHouseLimit_44 : decode cX5_takeHouseLimit 44 = .ok (.ireturn, 1) := by decide +kernel
theorem dX5_takeHouseLimit_45 : decode cX5_takeHouseLimit 45 = .ok (.aload_n 0, 1) := by decide +kernel
theorem dX5_takeHouseLimit_46 : decode cX5_takeHouseLimit 46 = .ok (.bipush 9, 2) := by decide +kernel
theorem dX5_takeHouseLimit_48 : decode cX5_takeHouseLimit 48 = .ok (.bipush 9, 2) := by decide +kernel
theorem dX5_takeHouseLimit_50 : decode cX5_takeHouseLimit 50 = .ok (.invokevirtual 45, 3) := by decide +kernel
theorem dX5_takeHouseLimit_53 : decode cX5_takeHouseLimit 53 = .ok (.ireturn, 1) := by decide +kernel
set_option maxRecDepth 20000 in
theorem ggX5_takeNumber_X5_skipBlanks : GoodIn wsX5_takeNumber wsX5_skipBlanks := goodIn_r _ [7, 1, 2, 8, 9, 10, 11, 12, 13, 14, 15, 16, 17, 18, 27, 28, 29, 30, 31, 32] (by decide +kernel) (by decide +kernel)
set_option maxRecDepth 20000 in
theorem gX5_takeNumber_X5_skipBlanks : GoodIn wsX5_takeNumber (wsV RX5 34 RX5 yX5_skipBlanks wsX5_skipBlanks) := goodIn_app (goodIn_of _ (by decide +kernel)) ggX5_takeNumber_X5_skipBlanks
set_option maxRecDepth 20000 in
theorem ggX5_takeNumber_X8_length : GoodIn wsX5_takeNumber wsX8_length := goodIn_r _ [12, 13, 31, 32] (by decide +kernel) (by decide +kernel)
set_option maxRecDepth 20000 in
theorem gX5_takeNumber_X8_length : GoodIn wsX5_takeNumber (wsV RX5 76 RX8 yX8_length wsX8_length) := goodIn_app (goodIn_of _ (by decide +kernel)) ggX5_takeNumber_X8_length
set_option maxRecDepth 20000 in
theorem ggX5_takeNumber_X8_at : GoodIn wsX5_takeNumber wsX8_at := goodIn_r _ [17, 13, 18, 31, 32] (by decide +kernel) (by decide +kernel)
set_option maxRecDepth 20000 in
theorem gX5_takeNumber_X8_at : GoodIn wsX5_takeNumber (wsV RX5 66 RX8 yX8_at wsX8_at) := goodIn_app (goodIn_of _ (by decide +kernel)) ggX5_takeNumber_X8_at
set_option maxRecDepth 20000 in
theorem ggX5_takeNumber_X5_isDigit : GoodIn wsX5_takeNumber wsX5_isDigit := goodIn_r _ [21] (by decide +kernel) (by decide +kernel)
set_option maxRecDepth 20000 in
theorem gX5_takeNumber_X5_isDigit : GoodIn wsX5_takeNumber (va_wsS RX5 79 yX5_isDigit wsX5_isDigit) := goodIn_app (goodIn_of _ (by decide +kernel)) ggX5_takeNumber_X5_isDigit
set_option maxRecDepth 20000 in
theorem ggX5_takeNumber_X5_fail : GoodIn wsX5_takeNumber wsX5_fail := goodIn_r _ [25, 26, 27, 28, 29, 30] (by decide +kernel) (by decide +kernel)
set_option maxRecDepth 20000 in
theorem gX5_takeNumber_X5_fail : GoodIn wsX5_takeNumber (wsV RX5 41 RX5 yX5_fail wsX5_fail) := goodIn_app (goodIn_of _ (by decide +kernel)) ggX5_takeNumber_X5_fail
theorem dX5_takeNumber_0 : decode cX5_takeNumber 0 = .ok (.aload_n 0, 1) := by decide +kernel
theorem dX5_takeNumber_1 : decode cX5_takeNumber 1 = .ok (.invokevirtual 34, 3) := by decide +kernel
theorem dX5_takeNumber_4 : decode cX5_takeNumber 4 = .ok (.aload_n 0, 1) := by decide +kernel
theorem dX5_takeNumber_5 : decode cX5_takeNumber 5 = .ok (.getfield 15, 3) := by decide +kernel
theorem dX5_takeNumber_8 : decode cX5_takeNumber 8 = .ok (.istore_n 3, 1) := by decide +kernel
theorem dX5_takeNumber_9 : decode cX5_takeNumber 9 = .ok (.iconst 0, 1) := by decide +kernel
theorem dX5_takeNumber_10 : decode cX5_takeNumber 10 = .ok (.istore 4, 2) := by decide +kernel
theorem dX5_takeNumber_12 : decode cX5_takeNumber 12 = .ok (.aload_n 0, 1) := by decide +kernel
theorem dX5_takeNumber_13 : decode cX5_takeNumber 13 = .ok (.getfield 15, 3) := by decide +kernel
theorem dX5_takeNumber_16 : decode cX5_takeNumber 16 = .ok (.aload_n 0, 1) := by decide +kernel
theorem dX5_takeNumber_17 : decode cX5_takeNumber 17 = .ok (.getfield 9, 3) := by decide +kernel
theorem dX5_takeNumber_20 : decode cX5_takeNumber 20 = .ok (.invokevirtual 76, 3) := by decide +kernel
theorem dX5_takeNumber_23 : decode cX5_takeNumber 23 = .ok (.if_icmp .ge 65, 3) := by decide +kernel
theorem dX5_takeNumber_26 : decode cX5_takeNumber 26 = .ok (.aload_n 0, 1) := by decide +kernel
theorem dX5_takeNumber_27 : decode cX5_takeNumber 27 = .ok (.getfield 9, 3) := by decide +kernel
theorem dX5_takeNumber_30 : decode cX5_takeNumber 30 = .ok (.aload_n 0, 1) := by decide +kernel
theorem dX5_takeNumber_31 : decode cX5_takeNumber 31 = .ok (.getfield 15, 3) := by decide +kernel
theorem dX5_takeNumber_34 : decode cX5_takeNumber 34 = .ok (.invokevirtual 66, 3) := by decide +kernel
theorem dX5_takeNumber_37 : decode cX5_takeNumber 37 = .ok (.invokestatic 79, 3) := by decide +kernel
theorem dX5_takeNumber_40 : decode cX5_takeNumber 40 = .ok (.ifCond .eq 48, 3) := by decide +kernel
theorem dX5_takeNumber_43 : decode cX5_takeNumber 43 = .ok (.aload_n 0, 1) := by decide +kernel
theorem dX5_takeNumber_44 : decode cX5_takeNumber 44 = .ok (.getfield 15, 3) := by decide +kernel
theorem dX5_takeNumber_47 : decode cX5_takeNumber 47 = .ok (.iload_n 3, 1) := by decide +kernel
theorem dX5_takeNumber_48 : decode cX5_takeNumber 48 = .ok (.isub, 1) := by decide +kernel
theorem dX5_takeNumber_49 : decode cX5_takeNumber 49 = .ok (.iconst 2, 1) := by decide +kernel
theorem dX5_takeNumber_50 : decode cX5_takeNumber 50 = .ok (.if_icmp .ge 25, 3) := by decide +kernel
theorem dX5_takeNumber_53 : decode cX5_takeNumber 53 = .ok (.iload 4, 2) := by decide +kernel
theorem dX5_takeNumber_55 : decode cX5_takeNumber 55 = .ok (.bipush 10, 2) := by decide +kernel
theorem dX5_takeNumber_57 : decode cX5_takeNumber 57 = .ok (.imul, 1) := by decide +kernel
theorem dX5_takeNumber_58 : decode cX5_takeNumber 58 = .ok (.aload_n 0, 1) := by decide +kernel
theorem dX5_takeNumber_59 : decode cX5_takeNumber 59 = .ok (.getfield 9, 3) := by decide +kernel
theorem dX5_takeNumber_62 : decode cX5_takeNumber 62 = .ok (.aload_n 0, 1) := by decide +kernel
theorem dX5_takeNumber_63 : decode cX5_takeNumber 63 = .ok (.getfield 15, 3) := by decide +kernel
theorem dX5_takeNumber_66 : decode cX5_takeNumber 66 = .ok (.invokevirtual 66, 3) := by decide +kernel
theorem dX5_takeNumber_69 : decode cX5_takeNumber 69 = .ok (.iadd, 1) := by decide +kernel
theorem dX5_takeNumber_70 : decode cX5_takeNumber 70 = .ok (.bipush 48, 2) := by decide +kernel
theorem dX5_takeNumber_72 : decode cX5_takeNumber 72 = .ok (.isub, 1) := by decide +kernel
theorem dX5_takeNumber_73 : decode cX5_takeNumber 73 = .ok (.istore 4, 2) := by decide +kernel
theorem dX5_takeNumber_75 : decode cX5_takeNumber 75 = .ok (.aload_n 0, 1) := by decide +kernel
theorem dX5_takeNumber_76 : decode cX5_takeNumber 76 = .ok (.dup, 1) := by decide +kernel
theorem dX5_takeNumber_77 : decode cX5_takeNumber 77 = .ok (.getfield 15, 3) := by decide +kernel
theorem dX5_takeNumber_80 : decode cX5_takeNumber 80 = .ok (.iconst 1, 1) := by decide +kernel
theorem dX5_takeNumber_81 : decode cX5_takeNumber 81 = .ok (.iadd, 1) := by decide +kernel
theorem dX5_takeNumber_82 : decode cX5_takeNumber 82 = .ok (.putfield 15, 3) := by decide +kernel
theorem dX5_takeNumber_85 : decode cX5_takeNumber 85 = .ok (.goto (-73), 3) := by decide +kernel
theorem dX5_takeNumber_88 : decode cX5_takeNumber 88 = .ok (.aload_n 0, 1) := by decide +kernel
theorem dX5_takeNumber_89 : decode cX5_takeNumber 89 = .ok (.getfield 15, 3) := by decide +kernel
theorem dX5_takeNumber_92 : decode cX5_takeNumber 92 = .ok (.iload_n 3, 1) := by decide +kernel
theorem dX5_takeNumber_93 : decode cX5_takeNumber 93 = .ok (.isub, 1) := by decide +kernel
theorem dX5_takeNumber_94 : decode cX5_takeNumber 94 = .ok (.istore 5, 2) := by decide +kernel
theorem dX5_takeNumber_96 : decode cX5_takeNumber 96 = .ok (.iload 5, 2) := by decide +kernel
theorem dX5_takeNumber_98 : decode cX5_takeNumber 98 = .ok (.ifCond .ne 12, 3) := by decide +kernel
theorem dX5_takeNumber_101 : decode cX5_takeNumber 101 = .ok (.aload_n 0, 1) := by decide +kernel
theorem dX5_takeNumber_102 : decode cX5_takeNumber 102 = .ok (.iload_n 3, 1) := by decide +kernel
theorem dX5_takeNumber_103 : decode cX5_takeNumber 103 = .ok (.iconst 0, 1) := by decide +kernel
theorem dX5_takeNumber_104 : decode cX5_takeNumber 104 = .ok (.invokevirtual 41, 3) := by decide +kernel
theorem dX5_takeNumber_107 : decode cX5_takeNumber 107 = .ok (.pop, 1) := by decide +kernel
theorem dX5_takeNumber_108 : decode cX5_takeNumber 108 = .ok (.iconst 0, 1) := by decide +kernel
theorem dX5_takeNumber_109 : decode cX5_takeNumber 109 = .ok (.ireturn, 1) := by decide +kernel
theorem dX5_takeNumber_110 : decode cX5_takeNumber 110 = .ok (.iload 5, 2) := by decide +kernel
theorem dX5_takeNumber_112 : decode cX5_takeNumber 112 = .ok (.iconst 2, 1) := by decide +kernel
theorem dX5_takeNumber_113 : decode cX5_takeNumber 113 = .ok (.if_icmp .gt 15, 3) := by decide +kernel
theorem dX5_takeNumber_116 : decode cX5_takeNumber 116 = .ok (.iload 4, 2) := by decide +kernel
theorem dX5_takeNumber_118 : decode cX5_takeNumber 118 = .ok (.iconst 1, 1) := by decide +kernel
theorem dX5_takeNumber_119 : decode cX5_takeNumber 119 = .ok (.if_icmp .lt 9, 3) := by decide +kernel
theorem dX5_takeNumber_122 : decode cX5_takeNumber 122 = .ok (.iload 4, 2) := by decide +kernel
theorem dX5_takeNumber_124 : decode cX5_takeNumber 124 = .ok (.iload_n 1, 1) := by decide +kernel
theorem dX5_takeNumber_125 : decode cX5_takeNumber 125 = .ok (.if_icmp .le 12, 3) := by decide +kernel
theorem dX5_takeNumber_128 : decode cX5_takeNumber 128 = .ok (.aload_n 0, 1) := by decide +kernel
theorem dX5_takeNumber_129 : decode cX5_takeNumber 129 = .ok (.iload_n 3, 1) := by decide +kernel
theorem dX5_takeNumber_130 : decode cX5_takeNumber 130 = .ok (.iconst 1, 1) := by decide +kernel
theorem dX5_takeNumber_131 : decode cX5_takeNumber 131 = .ok (.invokevirtual 41, 3) := by decide +kernel
theorem dX5_takeNumber_134 : decode cX5_takeNumber 134 = .ok (.pop, 1) := by decide +kernel
theorem dX5_takeNumber_135 : decode cX5_takeNumber 135 = .ok (.iconst 0, 1) := by decide +kernel
theorem dX5_takeNumber_136 : decode cX5_takeNumber 136 = .ok (.ireturn, 1) := by decide +kernel
theorem dX5_takeNumber_137 : decode cX5_takeNumber 137 = .ok (.iload 4, 2) := by decide +kernel
theorem dX5_takeNumber_139 : decode cX5_takeNumber 139 = .ok (.iload_n 2, 1) := by decide +kernel
theorem dX5_takeNumber_140 : decode cX5_takeNumber 140 = .ok (.if_icmp .le 12, 3) := by decide +kernel
theorem dX5_takeNumber_143 : decode cX5_takeNumber 143 = .ok (.aload_n 0, 1) := by decide +kernel
theorem dX5_takeNumber_144 : decode cX5_takeNumber 144 = .ok (.iload_n 3, 1) := by decide +kernel
theorem dX5_takeNumber_145 : decode cX5_takeNumber 145 = .ok (.iconst 3, 1) := by decide +kernel
theorem dX5_takeNumber_146 : decode cX5_takeNumber 146 = .ok (.invokevirtual 41, 3) := by decide +kernel
theorem dX5_takeNumber_149 : decode cX5_takeNumber 149 = .ok (.pop, 1) := by decide +kernel
theorem dX5_takeNumber_150 : decode cX5_takeNumber 150 = .ok (.iconst 0, 1) := by decide +kernel
theorem dX5_takeNumber_151 : decode cX5_takeNumber 151 = .ok (.ireturn, 1) := by decide +kernel
theorem dX5_takeNumber_152 : decode cX5_takeNumber 152 = .ok (.iload 4, 2) := by decide +kernel
theorem dX5_takeNumber_154 : decode cX5_takeNumber 154 = .ok (.ireturn, 1) := by decide +kernel
set_option maxRecDepth 20000 in
theorem ggX5_takeEnd_X5_skipBlanks : GoodIn wsX5_takeEnd wsX5_skipBlanks := goodIn_r _ [7, 1, 2, 8, 9, 10, 11, 12, 13, 14, 15, 16, 17, 18, 24, 25, 26, 27, 28, 29] (by decide +kernel) (by decide +kernel)
set_option maxRecDepth 20000 in
theorem gX5_takeEnd_X5_skipBlanks : GoodIn wsX5_takeEnd (wsV RX5 34 RX5 yX5_skipBlanks wsX5_skipBlanks) := goodIn_app (goodIn_of _ (by decide +kernel)) ggX5_takeEnd_X5_skipBlanks
set_option maxRecDepth 20000 in
theorem ggX5_takeEnd_X8_length : GoodIn wsX5_takeEnd wsX8_length := goodIn_r _ [12, 13, 28, 29] (by decide +kernel) (by decide +kernel)
set_option maxRecDepth 20000 in
theorem gX5_takeEnd_X8_length : GoodIn wsX5_takeEnd (wsV RX5 76 RX8 yX8_length wsX8_length) := goodIn_app (goodIn_of _ (by decide +kernel)) ggX5_takeEnd_X8_length
set_option maxRecDepth 20000 in
theorem ggX5_takeEnd_X5_fail : GoodIn wsX5_takeEnd wsX5_fail := goodIn_r _ [22, 23, 24, 25, 26, 27] (by decide +kernel) (by decide +kernel)
set_option maxRecDepth 20000 in
theorem gX5_takeEnd_X5_fail : GoodIn wsX5_takeEnd (wsV RX5 41 RX5 yX5_fail wsX5_fail) := goodIn_app (goodIn_of _ (by decide +kernel)) ggX5_takeEnd_X5_fail
theorem dX5_takeEnd_0 : decode cX5_takeEnd 0 = .ok (.aload_n 0, 1) := by decide +kernel
theorem dX5_takeEnd_1 : decode cX5_takeEnd 1 = .ok (.invokevirtual 34, 3) := by decide +kernel
theorem dX5_takeEnd_4 : decode cX5_takeEnd 4 = .ok (.aload_n 0, 1) := by decide +kernel
theorem dX5_takeEnd_5 : decode cX5_takeEnd 5 = .ok (.getfield 15, 3) := by decide +kernel
theorem dX5_takeEnd_8 : decode cX5_takeEnd 8 = .ok (.aload_n 0, 1) := by decide +kernel
theorem dX5_takeEnd_9 : decode cX5_takeEnd 9 = .ok (.getfield 9, 3) := by decide +kernel
theorem dX5_takeEnd_12 : decode cX5_takeEnd 12 = .ok (.invokevirtual 76, 3) := by decide +kernel
theorem dX5_takeEnd_15 : decode cX5_takeEnd 15 = .ok (.if_icmp .ge 19, 3) := by decide +kernel
theorem dX5_takeEnd_18 : decode cX5_takeEnd 18 = .ok (.aload_n 0, 1) := by decide +kernel
theorem dX5_takeEnd_19 : decode cX5_takeEnd 19 = .ok (.aload_n 0, 1) := by decide +kernel
theorem dX5_takeEnd_20 : decode cX5_takeEnd 20 = .ok (.getfield 15, 3) := by decide +kernel
theorem dX5_takeEnd_23 : decode cX5_takeEnd 23 = .ok (.iconst 0, 1) := by decide +kernel
theorem dX5_takeEnd_24 : decode cX5_takeEnd 24 = .ok (.invokevirtual 41, 3) := by decide +kernel
theorem dX5_takeEnd_27 : decode cX5_takeEnd 27 = .ok (.ifCond .eq 7, 3) := by decide +kernel
theorem dX5_takeEnd_30 : decode cX5_takeEnd 30 = .ok (.iconst 1, 1) := by decide +kernel
theorem dX5_takeEnd_31 : decode cX5_takeEnd 31 = .ok (.goto 4, 3) := by decide +kernel
theorem dX5_takeEnd_34 : decode cX5_takeEnd 34 = .ok (.iconst 0, 1) := by decide +kernel
theorem dX5_takeEnd_35 : decode cX5_takeEnd 35 = .ok (.ireturn, 1) := by decide +kernel
set_option maxRecDepth 20000 in
theorem ggX5_takeSemicolon_X5_skipBlanks : GoodIn wsX5_takeSemicolon wsX5_skipBlanks := goodIn_r _ [7, 2, 1, 8, 9, 10, 11, 12, 13, 14, 15, 16, 17, 18, 24, 25, 26, 27, 28, 29] (by decide +kernel) (by decide +kernel)
set_option maxRecDepth 20000 in
theorem gX5_takeSemicolon_X5_skipBlanks : GoodIn wsX5_takeSemicolon (wsV RX5 34 RX5 yX5_skipBlanks wsX5_skipBlanks) := goodIn_app (goodIn_of _ (by decide +kernel)) ggX5_takeSemicolon_X5_skipBlanks
set_option maxRecDepth 20000 in
theorem ggX5_takeSemicolon_X8_at : GoodIn wsX5_takeSemicolon wsX8_at := goodIn_r _ [17, 13, 18, 28, 29] (by decide +kernel) (by decide +kernel)
set_option maxRecDepth 20000 in
theorem gX5_takeSemicolon_X8_at : GoodIn wsX5_takeSemicolon (wsV RX5 66 RX8 yX8_at wsX8_at) := goodIn_app (goodIn_of _ (by decide +kernel)) ggX5_takeSemicolon_X8_at
set_option maxRecDepth 20000 in
theorem ggX5_takeSemicolon_X5_fail : GoodIn wsX5_takeSemicolon wsX5_fail := goodIn_r _ [22, 23, 24, 25, 26, 27] (by decide +kernel) (by decide +kernel)
set_option maxRecDepth 20000 in
theorem gX5_takeSemicolon_X5_fail : GoodIn wsX5_takeSemicolon (wsV RX5 41 RX5 yX5_fail wsX5_fail) := goodIn_app (goodIn_of _ (by decide +kernel)) ggX5_takeSemicolon_X5_fail
theorem dX5_takeSemicolon_0 : decode cX5_takeSemicolon 0 = .ok (.aload_n 0, 1) := by decide +kernel
theorem dX5_takeSemicolon_1 : decode cX5_takeSemicolon 1 = .ok (.invokevirtual 34, 3) := by decide +kernel
theorem dX5_takeSemicolon_4 : decode cX5_takeSemicolon 4 = .ok (.aload_n 0, 1) := by decide +kernel
theorem dX5_takeSemicolon_5 : decode cX5_takeSemicolon 5 = .ok (.getfield 9, 3) := by decide +kernel
theorem dX5_takeSemicolon_8 : decode cX5_takeSemicolon 8 = .ok (.aload_n 0, 1) := by decide +kernel
theorem dX5_takeSemicolon_9 : decode cX5_takeSemicolon 9 = .ok (.getfield 15, 3) := by decide +kernel
theorem dX5_takeSemicolon_12 : decode cX5_takeSemicolon 12 = .ok (.invokevirtual 66, 3) := by decide +kernel
theorem dX5_takeSemicolon_15 : decode cX5_takeSemicolon 15 = .ok (.bipush 59, 2) := by decide +kernel
theorem dX5_takeSemicolon_17 : decode cX5_takeSemicolon 17 = .ok (.if_icmp .eq 13, 3) := by decide +kernel
theorem dX5_takeSemicolon_20 : decode cX5_takeSemicolon 20 = .ok (.aload_n 0, 1) := by decide +kernel
theorem dX5_takeSemicolon_21 : decode cX5_takeSemicolon 21 = .ok (.aload_n 0, 1) := by decide +kernel
theorem dX5_takeSemicolon_22 : decode cX5_takeSemicolon 22 = .ok (.getfield 15, 3) := by decide +kernel
theorem dX5_takeSemicolon_25 : decode cX5_takeSemicolon 25 = .ok (.iconst 0, 1) := by decide +kernel
theorem dX5_takeSemicolon_26 : decode cX5_takeSemicolon 26 = .ok (.invokevirtual 41, 3) := by decide +kernel
theorem dX5_takeSemicolon_29 : decode cX5_takeSemicolon 29 = .ok (.ireturn, 1) := by decide +kernel
theorem dX5_takeSemicolon_30 : decode cX5_takeSemicolon 30 = .ok (.aload_n 0, 1) := by decide +kernel
theorem dX5_takeSemicolon_31 : decode cX5_takeSemicolon 31 = .ok (.dup, 1) := by decide +kernel
theorem dX5_takeSemicolon_32 : decode cX5_takeSemicolon 32 = .ok (.getfield 15, 3) := by decide +kernel
theorem dX5_takeSemicolon_35 : decode cX5_takeSemicolon 35 = .ok (.iconst 1, 1) := by decide +kernel
theorem dX5_takeSemicolon_36 : decode cX5_takeSemicolon 36 = .ok (.iadd, 1) := by decide +kernel
theorem dX5_takeSemicolon_37 : decode cX5_takeSemicolon 37 = .ok (.putfield 15, 3) := by decide +kernel
theorem dX5_takeSemicolon_40 : decode cX5_takeSemicolon 40 = .ok (.iconst 1, 1) := by decide +kernel
theorem dX5_takeSemicolon_41 : decode cX5_takeSemicolon 41 = .ok (.ireturn, 1) := by decide +kernel
set_option maxRecDepth 20000 in
theorem ggX5_takeWord_X8_length : GoodIn wsX5_takeWord wsX8_length := goodIn_r _ [7, 8, 75, 76] (by decide +kernel) (by decide +kernel)
set_option maxRecDepth 20000 in
theorem gX5_takeWord_X8_length : GoodIn wsX5_takeWord (wsV RX5 76 RX8 yX8_length wsX8_length) := goodIn_app (goodIn_of _ (by decide +kernel)) ggX5_takeWord_X8_length
set_option maxRecDepth 20000 in
theorem ggX5_takeWord_X8_at : GoodIn wsX5_takeWord wsX8_at := goodIn_r _ [12, 8, 13, 75, 76] (by decide +kernel) (by decide +kernel)
set_option maxRecDepth 20000 in
theorem gX5_takeWord_X8_at : GoodIn wsX5_takeWord (wsV RX5 66 RX8 yX8_at wsX8_at) := goodIn_app (goodIn_of _ (by decide +kernel)) ggX5_takeWord_X8_at
set_option maxRecDepth 20000 in
theorem ggX5_takeWord_X5_isLetter : GoodIn wsX5_takeWord wsX5_isLetter := goodIn_r _ [17] (by decide +kernel) (by decide +kernel)
set_option maxRecDepth 20000 in
theorem gX5_takeWord_X5_isLetter : GoodIn wsX5_takeWord (va_wsS RX5 72 yX5_isLetter wsX5_isLetter) := goodIn_app (goodIn_of _ (by decide +kernel)) ggX5_takeWord_X5_isLetter
set_option maxRecDepth 20000 in
theorem ggX5_takeWord_X5_spells : GoodIn wsX5_takeWord wsX5_spells := goodIn_r _ [21, 1, 2, 22, 23, 24, 25, 26, 27, 28, 29, 30, 31, 32, 33, 9, 10, 11, 6, 12, 8, 13, 34, 35, 36, 37, 38, 39, 40, 41, 42, 43, 44, 45, 46, 47, 48, 49, 50, 51, 52, 53, 54, 55, 56, 57, 58, 59, 60, 61, 62, 63, 64, 65, 66, 67, 68, 69, 70, 71, 72, 73, 74, 75, 76] (by decide +kernel) (by decide +kernel)
set_option maxRecDepth 20000 in
theorem gX5_takeWord_X5_spells : GoodIn wsX5_takeWord (wsV RX5 84 RX5 yX5_spells wsX5_spells) := goodIn_app (goodIn_of _ (by decide +kernel)) ggX5_takeWord_X5_spells
theorem dX5_takeWord_0 : decode cX5_takeWord 0 = .ok (.aload_n 0, 1) := by decide +kernel
theorem dX5_takeWord_1 : decode cX5_takeWord 1 = .ok (.getfield 15, 3) := by decide +kernel
theorem dX5_takeWord_4 : decode cX5_takeWord 4 = .ok (.istore_n 1, 1) := by decide +kernel
theorem dX5_takeWord_5 : decode cX5_takeWord 5 = .ok (.aload_n 0, 1) := by decide +kernel
theorem dX5_takeWord_6 : decode cX5_takeWord 6 = .ok (.getfield 15, 3) := by decide +kernel
theorem dX5_takeWord_9 : decode cX5_takeWord 9 = .ok (.aload_n 0, 1) := by decide +kernel
theorem dX5_takeWord_10 : decode cX5_takeWord 10 = .ok (.getfield 9, 3) := by decide +kernel
theorem dX5_takeWord_13 : decode cX5_takeWord 13 = .ok (.invokevirtual 76, 3) := by decide +kernel
theorem dX5_takeWord_16 : decode cX5_takeWord 16 = .ok (.if_icmp .ge 33, 3) := by decide +kernel
theorem dX5_takeWord_19 : decode cX5_takeWord 19 = .ok (.aload_n 0, 1) := by decide +kernel
theorem dX5_takeWord_20 : decode cX5_takeWord 20 = .ok (.getfield 9, 3) := by decide +kernel
theorem dX5_takeWord_23 : decode cX5_takeWord 23 = .ok (.aload_n 0, 1) := by decide +kernel
theorem dX5_takeWord_24 : decode cX5_takeWord 24 = .ok (.getfield 15, 3) := by decide +kernel
theorem dX5_takeWord_27 : decode cX5_takeWord 27 = .ok (.invokevirtual 66, 3) := by decide +kernel
theorem dX5_takeWord_30 : decode cX5_takeWord 30 = .ok (.invokestatic 72, 3) := by decide +kernel
theorem dX5_takeWord_33 : decode cX5_takeWord 33 = .ok (.ifCond .eq 16, 3) := by decide +kernel
theorem dX5_takeWord_36 : decode cX5_takeWord 36 = .ok (.aload_n 0, 1) := by decide +kernel
theorem dX5_takeWord_37 : decode cX5_takeWord 37 = .ok (.dup, 1) := by decide +kernel
theorem dX5_takeWord_38 : decode cX5_takeWord 38 = .ok (.getfield 15, 3) := by decide +kernel
theorem dX5_takeWord_41 : decode cX5_takeWord 41 = .ok (.iconst 1, 1) := by decide +kernel
theorem dX5_takeWord_42 : decode cX5_takeWord 42 = .ok (.iadd, 1) := by decide +kernel
theorem dX5_takeWord_43 : decode cX5_takeWord 43 = .ok (.putfield 15, 3) := by decide +kernel
theorem dX5_takeWord_46 : decode cX5_takeWord 46 = .ok (.goto (-41), 3) := by decide +kernel
theorem dX5_takeWord_49 : decode cX5_takeWord 49 = .ok (.aload_n 0, 1) := by decide +kernel
theorem dX5_takeWord_50 : decode cX5_takeWord 50 = .ok (.iload_n 1, 1) := by decide +kernel
theorem dX5_takeWord_51 : decode cX5_takeWord 51 = .ok (.ldc 82, 2) := by decide +kernel
theorem dX5_takeWord_53 : decode cX5_takeWord 53 = .ok (.invokevirtual 84, 3) := by decide +kernel
theorem dX5_takeWord_56 : decode cX5_takeWord 56 = .ok (.ifCond .eq 5, 3) := by decide +kernel
theorem dX5_takeWord_59 : decode cX5_takeWord 59 = .ok (.iconst 1, 1) := by decide +kernel
theorem dX5_takeWord_60 : decode cX5_takeWord 60 = .ok (.ireturn, 1) := by decide +kernel
theorem dX5_takeWord_61 : decode cX5_takeWord 61 = .ok (.aload_n 0, 1) := by decide +kernel
theorem dX5_takeWord_62 : decode cX5_takeWord 62 = .ok (.iload_n 1, 1) := by decide +kernel
theorem dX5_takeWord_63 : decode cX5_takeWord 63 = .ok (.ldc 88, 2) := by decide +kernel
theorem dX5_takeWord_65 : decode cX5_takeWord 65 = .ok (.invokevirtual 84, 3) := by decide +kernel
theorem dX5_takeWord_68 : decode cX5_takeWord 68 = .ok (.ifCond .eq 5, 3) := by decide +kernel
theorem dX5_takeWord_71 : decode cX5_takeWord 71 = .ok (.iconst 2, 1) := by decide +kernel
theorem dX5_takeWord_72 : decode cX5_takeWord 72 = .ok (.ireturn, 1) := by decide +kernel
theorem dX5_takeWord_73 : decode cX5_takeWord 73 = .ok (.aload_n 0, 1) := by decide +kernel
theorem dX5_takeWord_74 : decode cX5_takeWord 74 = .ok (.iload_n 1, 1) := by decide +kernel
theorem dX5_takeWord_75 : decode cX5_takeWord 75 = .ok (.ldc 90, 2) := by decide +kernel
theorem dX5_takeWord_77 : decode cX5_takeWord 77 = .ok (.invokevirtual 84, 3) := by decide +kernel
theorem dX5_takeWord_80 : decode cX5_takeWord 80 = .ok (.ifCond .eq 5, 3) := by decide +kernel
theorem dX5_takeWord_83 : decode cX5_takeWord 83 = .ok (.iconst 3, 1) := by decide +kernel
theorem dX5_takeWord_84 : decode cX5_takeWord 84 = .ok (.ireturn, 1) := by decide +kernel
theorem dX5_takeWord_85 : decode cX5_takeWord 85 = .ok (.aload_n 0, 1) := by decide +kernel
theorem dX5_takeWord_86 : decode cX5_takeWord 86 = .ok (.iload_n 1, 1) := by decide +kernel
theorem dX5_takeWord_87 : decode cX5_takeWord 87 = .ok (.ldc 92, 2) := by decide +kernel
theorem dX5_takeWord_89 : decode cX5_takeWord 89 = .ok (.invokevirtual 84, 3) := by decide +kernel
theorem dX5_takeWord_92 : decode cX5_takeWord 92 = .ok (.ifCond .eq 5, 3) := by decide +kernel
theorem dX5_takeWord_95 : decode cX5_takeWord 95 = .ok (.iconst 4, 1) := by decide +kernel
theorem dX5_takeWord_96 : decode cX5_takeWord 96 = .ok (.ireturn, 1) := by decide +kernel
theorem dX5_takeWord_97 : decode cX5_takeWord 97 = .ok (.aload_n 0, 1) := by decide +kernel
theorem dX5_takeWord_98 : decode cX5_takeWord 98 = .ok (.iload_n 1, 1) := by decide +kernel
theorem dX5_takeWord_99 : decode cX5_takeWord 99 = .ok (.ldc 94, 2) := by decide +kernel
theorem dX5_takeWord_101 : decode cX5_takeWord 101 = .ok (.invokevirtual 84, 3) := by decide +kernel
theorem dX5_takeWord_104 : decode cX5_takeWord 104 = .ok (.ifCond .eq 7, 3) := by decide +kernel
theorem dX5_takeWord_107 : decode cX5_takeWord 107 = .ok (.iconst 5, 1) := by decide +kernel
theorem dX5_takeWord_108 : decode cX5_takeWord 108 = .ok (.goto 4, 3) := by decide +kernel
theorem dX5_takeWord_111 : decode cX5_takeWord 111 = .ok (.iconst 0, 1) := by decide +kernel
theorem dX5_takeWord_112 : decode cX5_takeWord 112 = .ok (.ireturn, 1) := by decide +kernel
set_option maxRecDepth 20000 in
theorem ggX5_spells_J0_length_8abf5 : GoodIn wsX5_spells wsJ0_length_8abf5 := goodIn_r _ [7, 8, 9, 10, 11, 6, 12, 13, 14] (by decide +kernel) (by decide +kernel)
set_option maxRecDepth 20000 in
theorem gX5_spells_J0_length_8abf5 : GoodIn wsX5_spells (wsV RX5 96 RJ0 yJ0_length_8abf5 wsJ0_length_8abf5) := goodIn_app (goodIn_of _ (by decide +kernel)) ggX5_spells_J0_length_8abf5
set_option maxRecDepth 20000 in
theorem ggX5_spells_X8_at : GoodIn wsX5_spells wsX8_at := goodIn_r _ [19, 20, 21, 63, 64] (by decide +kernel) (by decide +kernel)
set_option maxRecDepth 20000 in
theorem gX5_spells_X8_at : GoodIn wsX5_spells (wsV RX5 66 RX8 yX8_at wsX8_at) := goodIn_app (goodIn_of _ (by decide +kernel)) ggX5_spells_X8_at
set_option maxRecDepth 20000 in
theorem ggX5_spells_J0_charAt_5068e : GoodIn wsX5_spells wsJ0_charAt_5068e := goodIn_r _ [25, 8, 26, 27, 28, 6, 29, 13, 14, 30, 31, 32, 33, 34, 35, 36, 37, 38, 39, 40, 41, 42, 43, 44, 45, 46, 47, 48, 49, 50, 51, 52, 53, 54, 55, 56, 57, 58] (by decide +kernel) (by decide +kernel)
set_option maxRecDepth 20000 in
theorem gX5_spells_J0_charAt_5068e : GoodIn wsX5_spells (wsV RX5 99 RJ0 yJ0_charAt_5068e wsJ0_charAt_5068e) := goodIn_app (goodIn_of _ (by decide +kernel)) ggX5_spells_J0_charAt_5068e
theorem dX5_spells_0 : decode cX5_spells 0 = .ok (.aload_n 0, 1) := by decide +kernel
theorem dX5_spells_1 : decode cX5_spells 1 = .ok (.getfield 15, 3) := by decide +kernel
theorem dX5_spells_4 : decode cX5_spells 4 = .ok (.iload_n 1, 1) := by decide +kernel
theorem dX5_spells_5 : decode cX5_spells 5 = .ok (.isub, 1) := by decide +kernel
theorem dX5_spells_6 : decode cX5_spells 6 = .ok (.aload_n 2, 1) := by decide +kernel
theorem dX5_spells_7 : decode cX5_spells 7 = .ok (.invokevirtual 96, 3) := by decide +kernel
theorem dX5_spells_10 : decode cX5_spells 10 = .ok (.if_icmp .eq 5, 3) := by decide +kernel
theorem dX5_spells_13 : decode cX5_spells 13 = .ok (.iconst 0, 1) := by decide +kernel
theorem dX5_spells_14 : decode cX5_spells 14 = .ok (.ireturn, 1) := by decide +kernel
theorem dX5_spells_15 : decode cX5_spells 15 = .ok (.iconst 0, 1) := by decide +kernel
theorem dX5_spells_16 : decode cX5_spells 16 = .ok (.istore_n 3, 1) := by decide +kernel
theorem dX5_spells_17 : decode cX5_spells 17 = .ok (.iload_n 3, 1) := by decide +kernel
theorem dX5_spells_18 : decode cX5_spells 18 = .ok (.aload_n 2, 1) := by decide +kernel
theorem dX5_spells_19 : decode cX5_spells 19 = .ok (.invokevirtual 96, 3) := by decide +kernel
theorem dX5_spells_22 : decode cX5_spells 22 = .ok (.if_icmp .ge 29, 3) := by decide +kernel
theorem dX5_spells_25 : decode cX5_spells 25 = .ok (.aload_n 0, 1) := by decide +kernel
theorem dX5_spells_26 : decode cX5_spells 26 = .ok (.getfield 9, 3) := by decide +kernel
theorem dX5_spells_29 : decode cX5_spells 29 = .ok (.iload_n 1, 1) := by decide +kernel
theorem dX5_spells_30 : decode cX5_spells 30 = .ok (.iload_n 3, 1) := by decide +kernel
theorem dX5_spells_31 : decode cX5_spells 31 = .ok (.iadd, 1) := by decide +kernel
theorem dX5_spells_32 : decode cX5_spells 32 = .ok (.invokevirtual 66, 3) := by decide +kernel
theorem dX5_spells_35 : decode cX5_spells 35 = .ok (.aload_n 2, 1) := by decide +kernel
theorem dX5_spells_36 : decode cX5_spells 36 = .ok (.iload_n 3, 1) := by decide +kernel
theorem dX5_spells_37 : decode cX5_spells 37 = .ok (.invokevirtual 99, 3) := by decide +kernel
theorem dX5_spells_40 : decode cX5_spells 40 = .ok (.if_icmp .eq 5, 3) := by decide +kernel
theorem dX5_spells_43 : decode cX5_spells 43 = .ok (.iconst 0, 1) := by decide +kernel
theorem dX5_spells_44 : decode cX5_spells 44 = .ok (.ireturn, 1) := by decide +kernel
theorem dX5_spells_45 : decode cX5_spells 45 = .ok (.iinc 3 1, 3) := by decide +kernel
theorem dX5_spells_48 : decode cX5_spells 48 = .ok (.goto (-31), 3) := by decide +kernel
theorem dX5_spells_51 : decode cX5_spells 51 = .ok (.iconst 1, 1) := by decide +kernel
theorem dX5_spells_52 : decode cX5_spells 52 = .ok (.ireturn, 1) := by decide +kernel
set_option maxRecDepth 20000 in
theorem ggX5_skipBlanks_X8_length : GoodIn wsX5_skipBlanks wsX8_length := goodIn_r _ [7, 8, 18, 19] (by decide +kernel) (by decide +kernel)
set_option maxRecDepth 20000 in
theorem gX5_skipBlanks_X8_length : GoodIn wsX5_skipBlanks (wsV RX5 76 RX8 yX8_length wsX8_length) := goodIn_app (goodIn_of _ (by decide +kernel)) ggX5_skipBlanks_X8_length
set_option maxRecDepth 20000 in
theorem ggX5_skipBlanks_X8_at : GoodIn wsX5_skipBlanks wsX8_at := goodIn_r _ [12, 8, 13, 18, 19] (by decide +kernel) (by decide +kernel)
set_option maxRecDepth 20000 in
theorem gX5_skipBlanks_X8_at : GoodIn wsX5_skipBlanks (wsV RX5 66 RX8 yX8_at wsX8_at) := goodIn_app (goodIn_of _ (by decide +kernel)) ggX5_skipBlanks_X8_at
theorem dX5_skipBlanks_0 : decode cX5_skipBlanks 0 = .ok (.aload_n 0, 1) := by decide +kernel
theorem dX5_skipBlanks_1 : decode cX5_skipBlanks 1 = .ok (.getfield 15, 3) := by decide +kernel
theorem dX5_skipBlanks_4 : decode cX5_skipBlanks 4 = .ok (.aload_n 0, 1) := by decide +kernel
theorem dX5_skipBlanks_5 : decode cX5_skipBlanks 5 = .ok (.getfield 9, 3) := by decide +kernel
theorem dX5_skipBlanks_8 : decode cX5_skipBlanks 8 = .ok (.invokevirtual 76, 3) := by decide +kernel
theorem dX5_skipBlanks_11 : decode cX5_skipBlanks 11 = .ok (.if_icmp .ge 32, 3) := by decide +kernel
theorem dX5_skipBlanks_14 : decode cX5_skipBlanks 14 = .ok (.aload_n 0, 1) := by decide +kernel
theorem dX5_skipBlanks_15 : decode cX5_skipBlanks 15 = .ok (.getfield 9, 3) := by decide +kernel
theorem dX5_skipBlanks_18 : decode cX5_skipBlanks 18 = .ok (.aload_n 0, 1) := by decide +kernel
theorem dX5_skipBlanks_19 : decode cX5_skipBlanks 19 = .ok (.getfield 15, 3) := by decide +kernel
theorem dX5_skipBlanks_22 : decode cX5_skipBlanks 22 = .ok (.invokevirtual 66, 3) := by decide +kernel
theorem dX5_skipBlanks_25 : decode cX5_skipBlanks 25 = .ok (.bipush 32, 2) := by decide +kernel
theorem dX5_skipBlanks_27 : decode cX5_skipBlanks 27 = .ok (.if_icmp .ne 16, 3) := by decide +kernel
theorem dX5_skipBlanks_30 : decode cX5_skipBlanks 30 = .ok (.aload_n 0, 1) := by decide +kernel
theorem dX5_skipBlanks_31 : decode cX5_skipBlanks 31 = .ok (.dup, 1) := by decide +kernel
theorem dX5_skipBlanks_32 : decode cX5_skipBlanks 32 = .ok (.getfield 15, 3) := by decide +kernel
theorem dX5_skipBlanks_35 : decode cX5_skipBlanks 35 = .ok (.iconst 1, 1) := by decide +kernel
theorem dX5_skipBlanks_36 : decode cX5_skipBlanks 36 = .ok (.iadd, 1) := by decide +kernel
theorem dX5_skipBlanks_37 : decode cX5_skipBlanks 37 = .ok (.putfield 15, 3) := by decide +kernel
theorem dX5_skipBlanks_40 : decode cX5_skipBlanks 40 = .ok (.goto (-40), 3) := by decide +kernel
theorem dX5_skipBlanks_43 : decode cX5_skipBlanks 43 = .ok (.return_, 1) := by decide +kernel
theorem dX5_fail_0 : decode cX5_fail 0 = .ok (.aload_n 0, 1) := by decide +kernel
theorem dX5_fail_1 : decode cX5_fail 1 = .ok (.getfield 22, 3) := by decide +kernel
theorem dX5_fail_4 : decode cX5_fail 4 = .ok (.ifCond .ne 15, 3) := by decide +kernel
theorem dX5_fail_7 : decode cX5_fail 7 = .ok (.aload_n 0, 1) := by decide +kernel
theorem dX5_fail_8 : decode cX5_fail 8 = .ok (.iconst 1, 1) := by decide +kernel
theorem dX5_fail_9 : decode cX5_fail 9 = .ok (.bipush 8, 2) := by decide +kernel
theorem dX5_fail_11 : decode cX5_fail 11 = .ok (.iload_n 1, 1) := by decide +kernel
theorem dX5_fail_12 : decode cX5_fail 12 = .ok (.imul, 1) := by decide +kernel
theorem dX5_fail_13 : decode cX5_fail 13 = .ok (.iadd, 1) := by decide +kernel
theorem dX5_fail_14 : decode cX5_fail 14 = .ok (.iload_n 2, 1) := by decide +kernel
theorem dX5_fail_15 : decode cX5_fail 15 = .ok (.iadd, 1) := by decide +kernel
theorem dX5_fail_16 : decode cX5_fail 16 = .ok (.putfield 22, 3) := by decide +kernel
theorem dX5_fail_19 : decode cX5_fail 19 = .ok (.iconst 0, 1) := by decide +kernel
theorem dX5_fail_20 : decode cX5_fail 20 = .ok (.ireturn, 1) := by decide +kernel
theorem dX5_isLetter_0 : decode cX5_isLetter 0 = .ok (.iload_n 0, 1) := by decide +kernel
theorem dX5_isLetter_1 : decode cX5_isLetter 1 = .ok (.bipush 97, 2) := by decide +kernel
theorem dX5_isLetter_3 : decode cX5_isLetter 3 = .ok (.if_icmp .lt 13, 3) := by decide +kernel
theorem dX5_isLetter_6 : decode cX5_isLetter 6 = .ok (.iload_n 0, 1) := by decide +kernel
theorem dX5_isLetter_7 : decode cX5_isLetter 7 = .ok (.bipush 122, 2) := by decide +kernel
theorem dX5_isLetter_9 : decode cX5_isLetter 9 = .ok (.if_icmp .gt 7, 3) := by decide +kernel
theorem dX5_isLetter_12 : decode cX5_isLetter 12 = .ok (.iconst 1, 1) := by decide +kernel
theorem dX5_isLetter_13 : decode cX5_isLetter 13 = .ok (.goto 4, 3) := by decide +kernel
theorem dX5_isLetter_16 : decode cX5_isLetter 16 = .ok (.iconst 0, 1) := by decide +kernel
theorem dX5_isLetter_17 : decode cX5_isLetter 17 = .ok (.ireturn, 1) := by decide +kernel
theorem dX5_isDigit_0 : decode cX5_isDigit 0 = .ok (.iload_n 0, 1) := by decide +kernel
theorem dX5_isDigit_1 : decode cX5_isDigit 1 = .ok (.bipush 48, 2) := by decide +kernel
theorem dX5_isDigit_3 : decode cX5_isDigit 3 = .ok (.if_icmp .lt 13, 3) := by decide +kernel
theorem dX5_isDigit_6 : decode cX5_isDigit 6 = .ok (.iload_n 0, 1) := by decide +kernel
theorem dX5_isDigit_7 : decode cX5_isDigit 7 = .ok (.bipush 57, 2) := by decide +kernel
theorem dX5_isDigit_9 : decode cX5_isDigit 9 = .ok (.if_icmp .gt 7, 3) := by decide +kernel
theorem dX5_isDigit_12 : decode cX5_isDigit 12 = .ok (.iconst 1, 1) := by decide +kernel
theorem dX5_isDigit_13 : decode cX5_isDigit 13 = .ok (.goto 4, 3) := by decide +kernel
theorem dX5_isDigit_16 : decode cX5_isDigit 16 = .ok (.iconst 0, 1) := by decide +kernel
theorem dX5_isDigit_17 : decode cX5_isDigit 17 = .ok (.ireturn, 1) := by decide +kernel
set_option maxRecDepth 20000 in
theorem ggX6_init_X3_init : GoodIn wsX6_init wsX3_init := goodIn_r _ [19, 20, 2, 3, 5, 21, 22, 23, 24, 35, 36, 37, 38, 39] (by decide +kernel) (by decide +kernel)
set_option maxRecDepth 20000 in
theorem gX6_init_X3_init_n28 : GoodIn wsX6_init (wsX3_init) := ggX6_init_X3_init
theorem dX6_init_0 : decode cX6_init 0 = .ok (.aload_n 0, 1) := by decide +kernel
theorem dX6_init_1 : decode cX6_init 1 = .ok (.invokespecial 3, 3) := by decide +kernel
theorem dX6_init_4 : decode cX6_init 4 = .ok (.aload_n 0, 1) := by decide +kernel
theorem dX6_init_5 : decode cX6_init 5 = .ok (.bipush 13, 2) := by decide +kernel
theorem dX6_init_7 : decode cX6_init 7 = .ok (.bipush 40, 2) := by decide +kernel
theorem dX6_init_9 : decode cX6_init 9 = .ok (.multianewarray 9 2, 4) := by decide +kernel
theorem dX6_init_13 : decode cX6_init 13 = .ok (.putfield 11, 3) := by decide +kernel
theorem dX6_init_16 : decode cX6_init 16 = .ok (.aload_n 0, 1) := by decide +kernel
theorem dX6_init_17 : decode cX6_init 17 = .ok (.bipush 13, 2) := by decide +kernel
theorem dX6_init_19 : decode cX6_init 19 = .ok (.newarray .int, 2) := by decide +kernel
theorem dX6_init_21 : decode cX6_init 21 = .ok (.putfield 16, 3) := by decide +kernel
theorem dX6_init_24 : decode cX6_init 24 = .ok (.aload_n 0, 1) := by decide +kernel
theorem dX6_init_25 : decode cX6_init 25 = .ok (.bipush 40, 2) := by decide +kernel
theorem dX6_init_27 : decode cX6_init 27 = .ok (.newarray .int, 2) := by decide +kernel
theorem dX6_init_29 : decode cX6_init 29 = .ok (.putfield 20, 3) := by decide +kernel
theorem dX6_init_32 : decode cX6_init 32 = .ok (.aload_n 0, 1) := by decide +kernel
theorem dX6_init_33 : decode cX6_init 33 = .ok (.bipush 12, 2) := by decide +kernel
theorem dX6_init_35 : decode cX6_init 35 = .ok (.newarray .int, 2) := by decide +kernel
theorem dX6_init_37 : decode cX6_init 37 = .ok (.putfield 23, 3) := by decide +kernel
theorem dX6_init_40 : decode cX6_init 40 = .ok (.aload_n 0, 1) := by decide +kernel
theorem dX6_init_41 : decode cX6_init 41 = .ok (.new 26, 3) := by decide +kernel
theorem dX6_init_44 : decode cX6_init 44 = .ok (.dup, 1) := by decide +kernel
theorem dX6_init_45 : decode cX6_init 45 = .ok (.invokespecial 28, 3) := by decide +kernel
theorem dX6_init_48 : decode cX6_init 48 = .ok (.putfield 29, 3) := by decide +kernel
theorem dX6_init_51 : decode cX6_init 51 = .ok (.aload_n 0, 1) := by decide +kernel
theorem dX6_init_52 : decode cX6_init 52 = .ok (.iconst (-1), 1) := by decide +kernel
theorem dX6_init_53 : decode cX6_init 53 = .ok (.putfield 33, 3) := by decide +kernel
theorem dX6_init_56 : decode cX6_init 56 = .ok (.aload_n 0, 1) := by decide +kernel
theorem dX6_init_57 : decode cX6_init 57 = .ok (.aload_n 1, 1) := by decide +kernel
theorem dX6_init_58 : decode cX6_init 58 = .ok (.putfield 37, 3) := by decide +kernel
theorem dX6_init_61 : decode cX6_init 61 = .ok (.aload_n 0, 1) := by decide +kernel
theorem dX6_init_62 : decode cX6_init 62 = .ok (.aload_n 2, 1) := by decide +kernel
theorem dX6_init_63 : decode cX6_init 63 = .ok (.putfield 41, 3) := by decide +kernel
theorem dX6_init_66 : decode cX6_init 66 = .ok (.aload_n 0, 1) := by decide +kernel
theorem dX6_init_67 : decode cX6_init 67 = .ok (.aload_n 3, 1) := by decide +kernel
theorem dX6_init_68 : decode cX6_init 68 = .ok (.putfield 45, 3) := by decide +kernel
theorem dX6_init_71 : decode cX6_init 71 = .ok (.return_, 1) := by decide +kernel
theorem dX6_begin_0 : decode cX6_begin 0 = .ok (.aload_n 0, 1) := by decide +kernel
theorem dX6_begin_1 : decode cX6_begin 1 = .ok (.getfield 29, 3) := by decide +kernel
theorem dX6_begin_4 : decode cX6_begin 4 = .ok (.astore_n 2, 1) := by decide +kernel
theorem dX6_begin_5 : decode cX6_begin 5 = .ok (.aload_n 0, 1) := by decide +kernel
theorem dX6_begin_6 : decode cX6_begin 6 = .ok (.aload_n 1, 1) := by decide +kernel
theorem dX6_begin_7 : decode cX6_begin 7 = .ok (.putfield 29, 3) := by decide +kernel
theorem dX6_begin_10 : decode cX6_begin 10 = .ok (.aload_n 0, 1) := by decide +kernel
theorem dX6_begin_11 : decode cX6_begin 11 = .ok (.iconst 0, 1) := by decide +kernel
theorem dX6_begin_12 : decode cX6_begin 12 = .ok (.putfield 49, 3) := by decide +kernel
theorem dX6_begin_15 : decode cX6_begin 15 = .ok (.aload_n 0, 1) := by decide +kernel
theorem dX6_begin_16 : decode cX6_begin 16 = .ok (.iconst (-1), 1) := by decide +kernel
theorem dX6_begin_17 : decode cX6_begin 17 = .ok (.putfield 33, 3) := by decide +kernel
theorem dX6_begin_20 : decode cX6_begin 20 = .ok (.aload_n 2, 1) := by decide +kernel
theorem dX6_begin_21 : decode cX6_begin 21 = .ok (.areturn, 1) := by decide +kernel
theorem dX6_plan_0 : decode cX6_plan 0 = .ok (.aload_n 0, 1) := by decide +kernel
theorem dX6_plan_1 : decode cX6_plan 1 = .ok (.getfield 29, 3) := by decide +kernel
theorem dX6_plan_4 : decode cX6_plan 4 = .ok (.areturn, 1) := by decide +kernel
set_option maxRecDepth 20000 in
theorem ggX6_stepsInAll_X3_length : GoodIn wsX6_stepsInAll wsX3_length := goodIn_r _ [6, 7, 18, 19, 20, 21, 22] (by decide +kernel) (by decide +kernel)
set_option maxRecDepth 20000 in
theorem gX6_stepsInAll_X3_length : GoodIn wsX6_stepsInAll (wsV RX6 52 RX3 yX3_length wsX3_length) := goodIn_app (goodIn_of _ (by decide +kernel)) ggX6_stepsInAll_X3_length
theorem dX6_stepsInAll_0 : decode cX6_stepsInAll 0 = .ok (.aload_n 0, 1) := by decide +kernel
theorem dX6_stepsInAll_1 : decode cX6_stepsInAll 1 = .ok (.getfield 29, 3) := by decide +kernel
theorem dX6_stepsInAll_4 : decode cX6_stepsInAll 4 = .ok (.invokevirtual 52, 3) := by decide +kernel
theorem dX6_stepsInAll_7 : decode cX6_stepsInAll 7 = .ok (.ireturn, 1) := by decide +kernel
theorem dX6_stepsDone_0 : decode cX6_stepsDone 0 = .ok (.aload_n 0, 1) := by decide +kernel
theorem dX6_stepsDone_1 : decode cX6_stepsDone 1 = .ok (.getfield 49, 3) := by decide +kernel
theorem dX6_stepsDone_4 : decode cX6_stepsDone 4 = .ok (.ireturn, 1) := by decide +kernel
theorem dX6_head_0 : decode cX6_head 0 = .ok (.aload_n 0, 1) := by decide +kernel
theorem dX6_head_1 : decode cX6_head 1 = .ok (.getfield 33, 3) := by decide +kernel
theorem dX6_head_4 : decode cX6_head 4 = .ok (.ireturn, 1) := by decide +kernel
set_option maxRecDepth 20000 in
theorem ggX6_bodySize_X6_gatherFirstBody : GoodIn wsX6_bodySize wsX6_gatherFirstBody := goodIn_r _ [7, 8, 9, 2, 10, 11, 12, 13, 14, 15, 16, 17, 18, 19, 20, 21, 22, 23, 24, 25, 26, 27, 28, 29, 30, 31, 32, 33, 34, 35, 36, 37, 38, 39, 40, 41] (by decide +kernel) (by decide +kernel)
set_option maxRecDepth 20000 in
theorem gX6_bodySize_X6_gatherFirstBody : GoodIn wsX6_bodySize (wsV RX6 56 RX6 yX6_gatherFirstBody wsX6_gatherFirstBody) := goodIn_app (goodIn_of _ (by decide +kernel)) ggX6_bodySize_X6_gatherFirstBody
theorem dX6_bodySize_0 : decode cX6_bodySize 0 = .ok (.aload_n 0, 1) := by decide +kernel
theorem dX6_bodySize_1 : decode cX6_bodySize 1 = .ok (.getfield 49, 3) := by decide +kernel
theorem dX6_bodySize_4 : decode cX6_bodySize 4 = .ok (.ifCond .ne 7, 3) := by decide +kernel
theorem dX6_bodySize_7 : decode cX6_bodySize 7 = .ok (.aload_n 0, 1) := by decide +kernel
theorem dX6_bodySize_8 : decode cX6_bodySize 8 = .ok (.invokevirtual 56, 3) := by decide +kernel
theorem dX6_bodySize_11 : decode cX6_bodySize 11 = .ok (.aload_n 0, 1) := by decide +kernel
theorem dX6_bodySize_12 : decode cX6_bodySize 12 = .ok (.getfield 16, 3) := by decide +kernel
theorem dX6_bodySize_15 : decode cX6_bodySize 15 = .ok (.aload_n 0, 1) := by decide +kernel
theorem dX6_bodySize_16 : decode cX6_bodySize 16 = .ok (.getfield 49, 3) := by decide +kernel
theorem dX6_bodySize_19 : decode cX6_bodySize 19 = .ok (.iaload, 1) := by decide +kernel
theorem dX6_bodySize_20 : decode cX6_bodySize 20 = .ok (.ireturn, 1) := by decide +kernel
set_option maxRecDepth 20000 in
theorem ggX6_member_X6_bodySize : GoodIn wsX6_member wsX6_bodySize := goodIn_r _ [7, 2, 8, 9, 10, 11, 6, 12, 13, 1, 14, 15, 16, 17, 18, 19, 20, 21, 22, 23, 24, 25, 26, 27, 28, 29, 30, 31, 32, 33, 34, 35, 36, 37, 38, 39, 40, 41, 42, 43, 44, 45] (by decide +kernel) (by decide +kernel)
set_option maxRecDepth 20000 in
theorem gX6_member_X6_bodySize : GoodIn wsX6_member (wsV RX6 59 RX6 yX6_bodySize wsX6_bodySize) := goodIn_app (goodIn_of _ (by decide +kernel)) ggX6_member_X6_bodySize
theorem dX6_member_0 : decode cX6_member 0 = .ok (.iload_n 1, 1) := by decide +kernel
theorem dX6_member_1 : decode cX6_member 1 = .ok (.ifCond .lt 25, 3) := by decide +kernel
theorem dX6_member_4 : decode cX6_member 4 = .ok (.iload_n 1, 1) := by decide +kernel
theorem dX6_member_5 : decode cX6_member 5 = .ok (.aload_n 0, 1) := by decide +kernel
theorem dX6_member_6 : decode cX6_member 6 = .ok (.invokevirtual 59, 3) := by decide +kernel
theorem dX6_member_9 : decode cX6_member 9 = .ok (.if_icmp .ge 17, 3) := by decide +kernel
theorem dX6_member_12 : decode cX6_member 12 = .ok (.aload_n 0, 1) := by decide +kernel
theorem dX6_member_13 : decode cX6_member 13 = .ok (.getfield 11, 3) := by decide +kernel
theorem dX6_member_16 : decode cX6_member 16 = .ok (.aload_n 0, 1) := by decide +kernel
theorem dX6_member_17 : decode cX6_member 17 = .ok (.getfield 49, 3) := by decide +kernel
theorem dX6_member_20 : decode cX6_member 20 = .ok (.aaload, 1) := by decide +kernel
theorem dX6_member_21 : decode cX6_member 21 = .ok (.iload_n 1, 1) := by decide +kernel
theorem dX6_member_22 : decode cX6_member 22 = .ok (.iaload, 1) := by decide +kernel
theorem dX6_member_23 : decode cX6_member 23 = .ok (.goto 4, 3) := by decide +kernel
theorem dX6_member_26 : decode cX6_member 26 = .ok (.iconst (-1), 1) := by decide +kernel
theorem dX6_member_27 : decode cX6_member 27 = .ok (.ireturn, 1) := by decide +kernel
set_option maxRecDepth 20000 in
theorem ggX6_gatherFirstBody_X0_size : GoodIn wsX6_gatherFirstBody wsX0_size := goodIn_r _ [8, 9, 29, 30, 31, 32, 33, 34, 35] (by decide +kernel) (by decide +kernel)
set_option maxRecDepth 20000 in
theorem gX6_gatherFirstBody_X0_size : GoodIn wsX6_gatherFirstBody (wsV RX6 62 RX0 yX0_size wsX0_size) := goodIn_app (goodIn_of _ (by decide +kernel)) ggX6_gatherFirstBody_X0_size
set_option maxRecDepth 20000 in
theorem ggX6_gatherFirstBody_X0_isThere : GoodIn wsX6_gatherFirstBody wsX0_isThere := goodIn_r _ [13, 14, 15, 16, 17, 7, 18, 9, 29, 30, 31, 32, 33, 34, 35] (by decide +kernel) (by decide +kernel)
set_option maxRecDepth 20000 in
theorem gX6_gatherFirstBody_X0_isThere : GoodIn wsX6_gatherFirstBody (wsV RX6 67 RX0 yX0_isThere wsX0_isThere) := goodIn_app (goodIn_of _ (by decide +kernel)) ggX6_gatherFirstBody_X0_isThere
theorem dX6_gatherFirstBody_0 : decode cX6_gatherFirstBody 0 = .ok (.iconst 0, 1) := by decide +kernel
theorem dX6_gatherFirstBody_1 : decode cX6_gatherFirstBody 1 = .ok (.istore_n 1, 1) := by decide +kernel
theorem dX6_gatherFirstBody_2 : decode cX6_gatherFirstBody 2 = .ok (.iconst 0, 1) := by decide +kernel
theorem dX6_gatherFirstBody_3 : decode cX6_gatherFirstBody 3 = .ok (.istore_n 2, 1) := by decide +kernel
theorem dX6_gatherFirstBody_4 : decode cX6_gatherFirstBody 4 = .ok (.iload_n 2, 1) := by decide +kernel
theorem dX6_gatherFirstBody_5 : decode cX6_gatherFirstBody 5 = .ok (.aload_n 0, 1) := by decide +kernel
theorem dX6_gatherFirstBody_6 : decode cX6_gatherFirstBody 6 = .ok (.getfield 37, 3) := by decide +kernel
theorem dX6_gatherFirstBody_9 : decode cX6_gatherFirstBody 9 = .ok (.invokevirtual 62, 3) := by decide +kernel
theorem dX6_gatherFirstBody_12 : decode cX6_gatherFirstBody 12 = .ok (.if_icmp .ge 38, 3) := by decide +kernel
theorem dX6_gatherFirstBody_15 : decode cX6_gatherFirstBody 15 = .ok (.iload_n 1, 1) := by decide +kernel
theorem dX6_gatherFirstBody_16 : decode cX6_gatherFirstBody 16 = .ok (.bipush 40, 2) := by decide +kernel
theorem dX6_gatherFirstBody_18 : decode cX6_gatherFirstBody 18 = .ok (.if_icmp .ge 32, 3) := by decide +kernel
theorem dX6_gatherFirstBody_21 : decode cX6_gatherFirstBody 21 = .ok (.aload_n 0, 1) := by decide +kernel
theorem dX6_gatherFirstBody_22 : decode cX6_gatherFirstBody 22 = .ok (.getfield 37, 3) := by decide +kernel
theorem dX6_gatherFirstBody_25 : decode cX6_gatherFirstBody 25 = .ok (.iload_n 2, 1) := by decide +kernel
theorem dX6_gatherFirstBody_26 : decode cX6_gatherFirstBody 26 = .ok (.invokevirtual 67, 3) := by decide +kernel
theorem dX6_gatherFirstBody_29 : decode cX6_gatherFirstBody 29 = .ok (.ifCond .eq 15, 3) := by decide +kernel
theorem dX6_gatherFirstBody_32 : decode cX6_gatherFirstBody 32 = .ok (.aload_n 0, 1) := by decide +kernel
theorem dX6_gatherFirstBody_33 : decode cX6_gatherFirstBody 33 = .ok (.getfield 11, 3) := by decide +kernel
theorem dX6_gatherFirstBody_36 : decode cX6_gatherFirstBody 36 = .ok (.iconst 0, 1) := by decide +kernel
theorem dX6_gatherFirstBody_37 : decode cX6_gatherFirstBody 37 = .ok (.aaload, 1) := by decide +kernel
theorem dX6_gatherFirstBody_38 : decode cX6_gatherFirstBody 38 = .ok (.iload_n 1, 1) := by decide +kernel
theorem dX6_gatherFirstBody_39 : decode cX6_gatherFirstBody 39 = .ok (.iload_n 2, 1) := by decide +kernel
theorem dX6_gatherFirstBody_40 : decode cX6_gatherFirstBody 40 = .ok (.iastore, 1) := by decide +kernel
theorem dX6_gatherFirstBody_41 : decode cX6_gatherFirstBody 41 = .ok (.iinc 1 1, 3) := by decide +kernel
theorem dX6_gatherFirstBody_44 : decode cX6_gatherFirstBody 44 = .ok (.iinc 2 1, 3) := by decide +kernel
theorem dX6_gatherFirstBody_47 : decode cX6_gatherFirstBody 47 = .ok (.goto (-43), 3) := by decide +kernel
theorem dX6_gatherFirstBody_50 : decode cX6_gatherFirstBody 50 = .ok (.aload_n 0, 1) := by decide +kernel
theorem dX6_gatherFirstBody_51 : decode cX6_gatherFirstBody 51 = .ok (.getfield 16, 3) := by decide +kernel
theorem dX6_gatherFirstBody_54 : decode cX6_gatherFirstBody 54 = .ok (.iconst 0, 1) := by decide +kernel
theorem dX6_gatherFirstBody_55 : decode cX6_gatherFirstBody 55 = .ok (.iload_n 1, 1) := by decide +kernel
theorem dX6_gatherFirstBody_56 : decode cX6_gatherFirstBody 56 = .ok (.iastore, 1) := by decide +kernel
theorem dX6_gatherFirstBody_57 : decode cX6_gatherFirstBody 57 = .ok (.return_, 1) := by decide +kernel
theorem dX6_undoFrom_0 : decode cX6_undoFrom 0 = .ok (.iload_n 1, 1) := by decide +kernel
theorem dX6_undoFrom_1 : decode cX6_undoFrom 1 = .ok (.ifCond .lt 11, 3) := by decide +kernel
theorem dX6_undoFrom_4 : decode cX6_undoFrom 4 = .ok (.iload_n 1, 1) := by decide +kernel
theorem dX6_undoFrom_5 : decode cX6_undoFrom 5 = .ok (.aload_n 0, 1) := by decide +kernel
theorem dX6_undoFrom_6 : decode cX6_undoFrom 6 = .ok (.getfield 49, 3) := by decide +kernel
theorem dX6_undoFrom_9 : decode cX6_undoFrom 9 = .ok (.if_icmp .lt 5, 3) := by decide +kernel
theorem dX6_undoFrom_12 : decode cX6_undoFrom 12 = .ok (.iconst 0, 1) := by decide +kernel
theorem dX6_undoFrom_13 : decode cX6_undoFrom 13 = .ok (.ireturn, 1) := by decide +kernel
theorem dX6_undoFrom_14 : decode cX6_undoFrom 14 = .ok (.aload_n 0, 1) := by decide +kernel
theorem dX6_undoFrom_15 : decode cX6_undoFrom 15 = .ok (.iload_n 1, 1) := by decide +kernel
theorem dX6_undoFrom_16 : decode cX6_undoFrom 16 = .ok (.putfield 49, 3) := by decide +kernel
theorem dX6_undoFrom_19 : decode cX6_undoFrom 19 = .ok (.aload_n 0, 1) := by decide +kernel
theorem dX6_undoFrom_20 : decode cX6_undoFrom 20 = .ok (.iconst (-1), 1) := by decide +kernel
theorem dX6_undoFrom_21 : decode cX6_undoFrom 21 = .ok (.putfield 33, 3) := by decide +kernel
theorem dX6_undoFrom_24 : decode cX6_undoFrom 24 = .ok (.iconst 1, 1) := by decide +kernel
theorem dX6_undoFrom_25 : decode cX6_undoFrom 25 = .ok (.ireturn, 1) := by decide +kernel
set_option maxRecDepth 20000 in
theorem ggX6_doNext_X3_length : GoodIn wsX6_doNext wsX3_length := goodIn_r _ [7, 8, 193, 194, 195, 196, 197] (by decide +kernel) (by decide +kernel)
set_option maxRecDepth 20000 in
theorem gX6_doNext_X3_length : GoodIn wsX6_doNext (wsV RX6 52 RX3 yX3_length wsX3_length) := goodIn_app (goodIn_of _ (by decide +kernel)) ggX6_doNext_X3_length
set_option maxRecDepth 20000 in
theorem ggX6_doNext_X3_kindOf : GoodIn wsX6_doNext wsX3_kindOf := goodIn_r _ [12, 13, 14, 15, 16, 6, 17, 8, 193, 194, 195, 196, 197] (by decide +kernel) (by decide +kernel)
set_option maxRecDepth 20000 in
theorem gX6_doNext_X3_kindOf : GoodIn wsX6_doNext (wsV RX6 71 RX3 yX3_kindOf wsX3_kindOf) := goodIn_app (goodIn_of _ (by decide +kernel)) ggX6_doNext_X3_kindOf
set_option maxRecDepth 20000 in
theorem ggX6_doNext_X3_sizeOf : GoodIn wsX6_doNext wsX3_sizeOf := goodIn_r _ [21, 22, 14, 15, 16, 6, 17, 8, 193, 194, 195, 196, 197] (by decide +kernel) (by decide +kernel)
set_option maxRecDepth 20000 in
theorem gX6_doNext_X3_sizeOf : GoodIn wsX6_doNext (wsV RX6 75 RX3 yX3_sizeOf wsX3_sizeOf) := goodIn_app (goodIn_of _ (by decide +kernel)) ggX6_doNext_X3_sizeOf
set_option maxRecDepth 20000 in
theorem ggX6_doNext_X6_draw : GoodIn wsX6_doNext wsX6_draw := goodIn_r _ [27, 28, 1, 29, 30, 31, 32, 33, 34, 35, 36, 37, 26, 38, 39, 40, 41, 42, 43, 44, 45, 46, 47, 48, 49, 50, 51, 52, 53, 54, 55, 56, 57, 58, 59, 60, 61, 62, 63, 64, 65, 66, 67, 68, 69, 70, 71, 72, 73, 74, 75, 76, 77, 78, 79, 80, 81, 82, 83, 84, 85, 86, 87, 88, 89, 90, 91, 92, 183, 184, 185, 186, 187, 188, 189, 190, 191, 192, 198, 199, 200, 201, 202, 203, 204, 205, 206, 207, 208] (by decide +kernel) (by decide +kernel)
set_option maxRecDepth 20000 in
theorem gX6_doNext_X6_draw : GoodIn wsX6_doNext (wsV RX6 78 RX6 yX6_draw wsX6_draw) := goodIn_app (goodIn_of _ (by decide +kernel)) ggX6_doNext_X6_draw
set_option maxRecDepth 20000 in
theorem ggX6_doNext_X6_choose : GoodIn wsX6_doNext wsX6_choose := goodIn_r _ [96, 2, 1, 29, 28, 30, 31, 32, 33, 18, 19, 20, 6, 21, 22, 14, 15, 16, 17, 8, 97, 98, 99, 26, 100, 101, 102, 44, 103, 104, 105, 106, 107, 108, 109, 110, 111, 112, 35, 36, 37, 38, 39, 40, 41, 42, 43, 45, 46, 47, 48, 49, 50, 51, 52, 53, 54, 55, 56, 57, 58, 59, 113, 114, 115, 116, 117, 118, 119, 120, 121, 122, 123, 124, 125, 126, 127, 128, 129, 130, 131, 132, 133, 134, 135, 136, 137, 138, 139, 140, 141, 142, 143, 144, 145, 146, 147, 148, 149, 150, 151, 152, 153, 154, 155, 156, 157, 158, 159, 160, 161, 162, 163, 164, 165, 166, 167, 168, 169, 170, 171, 172, 173, 174, 175, 176, 177, 89, 90, 91, 92, 183, 184, 185, 186, 187, 188, 189, 190, 191, 192, 193, 194, 195, 196, 197, 198, 199, 200, 201, 202, 203, 204, 209, 210, 211, 212, 213] (by decide +kernel) (by decide +kernel)
set_option maxRecDepth 20000 in
theorem gX6_doNext_X6_choose : GoodIn wsX6_doNext (wsV RX6 81 RX6 yX6_choose wsX6_choose) := goodIn_app (goodIn_of _ (by decide +kernel)) ggX6_doNext_X6_choose
set_option maxRecDepth 20000 in
theorem ggX6_doNext_X6_elect : GoodIn wsX6_doNext wsX6_elect := goodIn_r _ [181, 28, 1, 30, 31, 32, 33, 29, 182, 97, 98, 99, 26, 100, 2, 101, 102, 44, 103, 104, 105, 6, 106, 107, 14, 15, 16, 17, 8, 108, 109, 110, 111, 112, 35, 36, 37, 38, 39, 40, 41, 42, 43, 45, 46, 47, 48, 49, 50, 51, 52, 53, 54, 55, 56, 57, 58, 59, 113, 114, 115, 116, 117, 118, 119, 120, 121, 122, 123, 124, 125, 126, 127, 128, 129, 130, 131, 132, 133, 134, 135, 136, 137, 138, 139, 140, 141, 142, 143, 144, 145, 146, 147, 148, 149, 150, 151, 152, 153, 154, 155, 156, 157, 158, 159, 160, 161, 162, 163, 164, 165, 166, 167, 168, 169, 170, 171, 172, 173, 174, 175, 176, 177, 89, 90, 91, 92, 183, 184, 185, 186, 187, 188, 189, 190, 191, 192, 193, 194, 195, 196, 197, 198, 199, 200, 201, 202, 203, 204, 209, 210, 211, 212, 213] (by decide +kernel) (by decide +kernel)
set_option maxRecDepth 20000 in
theorem gX6_doNext_X6_elect : GoodIn wsX6_doNext (wsV RX6 84 RX6 yX6_elect wsX6_elect) := goodIn_app (goodIn_of _ (by decide +kernel)) ggX6_doNext_X6_elect
