theorem dX2_drawSets_82 : decode cX2_drawSets 82 = .ok (.iconst 1, 1) := by decide +kernel
theorem dX2_drawSets_83 : decode cX2_drawSets 83 = .ok (.iaload, 1) := by decide +kernel
theorem dX2_drawSets_84 : decode cX2_drawSets 84 = .ok (.iload_n 1, 1) := by decide +kernel
theorem dX2_drawSets_85 : decode cX2_drawSets 85 = .ok (.iload 5, 2) := by decide +kernel
theorem dX2_drawSets_87 : decode cX2_drawSets 87 = .ok (.isub, 1) := by decide +kernel
theorem dX2_drawSets_88 : decode cX2_drawSets 88 = .ok (.invokestatic 116, 3) := by decide +kernel
theorem dX2_drawSets_91 : decode cX2_drawSets 91 = .ok (.if_icmp .gt 60, 3) := by decide +kernel
theorem dX2_drawSets_94 : decode cX2_drawSets 94 = .ok (.lload 6, 2) := by decide +kernel
theorem dX2_drawSets_96 : decode cX2_drawSets 96 = .ok (.aload_n 0, 1) := by decide +kernel
theorem dX2_drawSets_97 : decode cX2_drawSets 97 = .ok (.aload_n 0, 1) := by decide +kernel
theorem dX2_drawSets_98 : decode cX2_drawSets 98 = .ok (.getfield 18, 3) := by decide +kernel
theorem dX2_drawSets_101 : decode cX2_drawSets 101 = .ok (.iconst 1, 1) := by decide +kernel
theorem dX2_drawSets_102 : decode cX2_drawSets 102 = .ok (.iaload, 1) := by decide +kernel
theorem dX2_drawSets_103 : decode cX2_drawSets 103 = .ok (.iload 8, 2) := by decide +kernel
theorem dX2_drawSets_105 : decode cX2_drawSets 105 = .ok (.invokevirtual 125, 3) := by decide +kernel
theorem dX2_drawSets_108 : decode cX2_drawSets 108 = .ok (.lmul, 1) := by decide +kernel
theorem dX2_drawSets_109 : decode cX2_drawSets 109 = .ok (.lstore 9, 2) := by decide +kernel
theorem dX2_drawSets_111 : decode cX2_drawSets 111 = .ok (.aload_n 0, 1) := by decide +kernel
theorem dX2_drawSets_112 : decode cX2_drawSets 112 = .ok (.getfield 22, 3) := by decide +kernel
theorem dX2_drawSets_115 : decode cX2_drawSets 115 = .ok (.iconst 0, 1) := by decide +kernel
theorem dX2_drawSets_116 : decode cX2_drawSets 116 = .ok (.iload 5, 2) := by decide +kernel
theorem dX2_drawSets_118 : decode cX2_drawSets 118 = .ok (.iastore, 1) := by decide +kernel
theorem dX2_drawSets_119 : decode cX2_drawSets 119 = .ok (.aload_n 0, 1) := by decide +kernel
theorem dX2_drawSets_120 : decode cX2_drawSets 120 = .ok (.getfield 22, 3) := by decide +kernel
theorem dX2_drawSets_123 : decode cX2_drawSets 123 = .ok (.iconst 1, 1) := by decide +kernel
theorem dX2_drawSets_124 : decode cX2_drawSets 124 = .ok (.iload 8, 2) := by decide +kernel
theorem dX2_drawSets_126 : decode cX2_drawSets 126 = .ok (.iastore, 1) := by decide +kernel
theorem dX2_drawSets_127 : decode cX2_drawSets 127 = .ok (.aload_n 0, 1) := by decide +kernel
theorem dX2_drawSets_128 : decode cX2_drawSets 128 = .ok (.iload_n 1, 1) := by decide +kernel
theorem dX2_drawSets_129 : decode cX2_drawSets 129 = .ok (.iload 5, 2) := by decide +kernel
theorem dX2_drawSets_131 : decode cX2_drawSets 131 = .ok (.isub, 1) := by decide +kernel
theorem dX2_drawSets_132 : decode cX2_drawSets 132 = .ok (.iload 8, 2) := by decide +kernel
theorem dX2_drawSets_134 : decode cX2_drawSets 134 = .ok (.isub, 1) := by decide +kernel
theorem dX2_drawSets_135 : decode cX2_drawSets 135 = .ok (.lload 9, 2) := by decide +kernel
theorem dX2_drawSets_137 : decode cX2_drawSets 137 = .ok (.invokevirtual 207, 3) := by decide +kernel
theorem dX2_drawSets_140 : decode cX2_drawSets 140 = .ok (.ifCond .ne 5, 3) := by decide +kernel
theorem dX2_drawSets_143 : decode cX2_drawSets 143 = .ok (.iconst 0, 1) := by decide +kernel
theorem dX2_drawSets_144 : decode cX2_drawSets 144 = .ok (.ireturn, 1) := by decide +kernel
theorem dX2_drawSets_145 : decode cX2_drawSets 145 = .ok (.iinc 8 1, 3) := by decide +kernel
theorem dX2_drawSets_148 : decode cX2_drawSets 148 = .ok (.goto (-72), 3) := by decide +kernel
theorem dX2_drawSets_151 : decode cX2_drawSets 151 = .ok (.iinc 5 1, 3) := by decide +kernel
theorem dX2_drawSets_154 : decode cX2_drawSets 154 = .ok (.goto (-122), 3) := by decide +kernel
theorem dX2_drawSets_157 : decode cX2_drawSets 157 = .ok (.iconst 1, 1) := by decide +kernel
theorem dX2_drawSets_158 : decode cX2_drawSets 158 = .ok (.ireturn, 1) := by decide +kernel
set_option maxRecDepth 20000 in
theorem ggX2_drawLastTwo_X2_keyOfGets : GoodIn wsX2_drawLastTwo wsX2_keyOfGets := goodIn_r _ [15, 9, 30, 31, 32, 33, 34, 35, 36, 37, 38, 39, 40, 41, 42, 43, 44, 45] (by decide +kernel) (by decide +kernel)
set_option maxRecDepth 20000 in
theorem gX2_drawLastTwo_X2_keyOfGets : GoodIn wsX2_drawLastTwo (wsV RX2 162 RX2 yX2_keyOfGets wsX2_keyOfGets) := goodIn_app (goodIn_of _ (by decide +kernel)) ggX2_drawLastTwo_X2_keyOfGets
set_option maxRecDepth 20000 in
theorem ggX2_drawLastTwo_X2_setsOf : GoodIn wsX2_drawLastTwo wsX2_setsOf := goodIn_r _ [19, 20, 30, 31, 32, 33, 34, 35, 36, 37, 38, 39, 40, 41, 42, 43, 44, 45] (by decide +kernel) (by decide +kernel)
set_option maxRecDepth 20000 in
theorem gX2_drawLastTwo_X2_setsOf : GoodIn wsX2_drawLastTwo (wsV RX2 125 RX2 yX2_setsOf wsX2_setsOf) := goodIn_app (goodIn_of _ (by decide +kernel)) ggX2_drawLastTwo_X2_setsOf
set_option maxRecDepth 20000 in
theorem ggX2_drawLastTwo_X7_add : GoodIn wsX2_drawLastTwo wsX7_add := goodIn_r _ [25, 26, 27, 28, 29, 46, 47, 48, 49] (by decide +kernel) (by decide +kernel)
set_option maxRecDepth 20000 in
theorem gX2_drawLastTwo_X7_add : GoodIn wsX2_drawLastTwo (wsV RX2 165 RX7 yX7_add wsX7_add) := goodIn_app (goodIn_of _ (by decide +kernel)) ggX2_drawLastTwo_X7_add
theorem dX2_drawLastTwo_0 : decode cX2_drawLastTwo 0 = .ok (.iconst 0, 1) := by decide +kernel
theorem dX2_drawLastTwo_1 : decode cX2_drawLastTwo 1 = .ok (.iload_n 1, 1) := by decide +kernel
theorem dX2_drawLastTwo_2 : decode cX2_drawLastTwo 2 = .ok (.aload_n 0, 1) := by decide +kernel
theorem dX2_drawLastTwo_3 : decode cX2_drawLastTwo 3 = .ok (.getfield 18, 3) := by decide +kernel
theorem dX2_drawLastTwo_6 : decode cX2_drawLastTwo 6 = .ok (.iconst 3, 1) := by decide +kernel
theorem dX2_drawLastTwo_7 : decode cX2_drawLastTwo 7 = .ok (.iaload, 1) := by decide +kernel
theorem dX2_drawLastTwo_8 : decode cX2_drawLastTwo 8 = .ok (.isub, 1) := by decide +kernel
theorem dX2_drawLastTwo_9 : decode cX2_drawLastTwo 9 = .ok (.invokestatic 204, 3) := by decide +kernel
theorem dX2_drawLastTwo_12 : decode cX2_drawLastTwo 12 = .ok (.istore 4, 2) := by decide +kernel
theorem dX2_drawLastTwo_14 : decode cX2_drawLastTwo 14 = .ok (.iload 4, 2) := by decide +kernel
theorem dX2_drawLastTwo_16 : decode cX2_drawLastTwo 16 = .ok (.aload_n 0, 1) := by decide +kernel
theorem dX2_drawLastTwo_17 : decode cX2_drawLastTwo 17 = .ok (.getfield 18, 3) := by decide +kernel
theorem dX2_drawLastTwo_20 : decode cX2_drawLastTwo 20 = .ok (.iconst 2, 1) := by decide +kernel
theorem dX2_drawLastTwo_21 : decode cX2_drawLastTwo 21 = .ok (.iaload, 1) := by decide +kernel
theorem dX2_drawLastTwo_22 : decode cX2_drawLastTwo 22 = .ok (.iload_n 1, 1) := by decide +kernel
theorem dX2_drawLastTwo_23 : decode cX2_drawLastTwo 23 = .ok (.invokestatic 116, 3) := by decide +kernel
theorem dX2_drawLastTwo_26 : decode cX2_drawLastTwo 26 = .ok (.if_icmp .gt 62, 3) := by decide +kernel
theorem dX2_drawLastTwo_29 : decode cX2_drawLastTwo 29 = .ok (.aload_n 0, 1) := by decide +kernel
theorem dX2_drawLastTwo_30 : decode cX2_drawLastTwo 30 = .ok (.getfield 22, 3) := by decide +kernel
theorem dX2_drawLastTwo_33 : decode cX2_drawLastTwo 33 = .ok (.iconst 2, 1) := by decide +kernel
theorem dX2_drawLastTwo_34 : decode cX2_drawLastTwo 34 = .ok (.iload 4, 2) := by decide +kernel
theorem dX2_drawLastTwo_36 : decode cX2_drawLastTwo 36 = .ok (.iastore, 1) := by decide +kernel
theorem dX2_drawLastTwo_37 : decode cX2_drawLastTwo 37 = .ok (.aload_n 0, 1) := by decide +kernel
theorem dX2_drawLastTwo_38 : decode cX2_drawLastTwo 38 = .ok (.getfield 51, 3) := by decide +kernel
theorem dX2_drawLastTwo_41 : decode cX2_drawLastTwo 41 = .ok (.aload_n 0, 1) := by decide +kernel
theorem dX2_drawLastTwo_42 : decode cX2_drawLastTwo 42 = .ok (.invokevirtual 162, 3) := by decide +kernel
theorem dX2_drawLastTwo_45 : decode cX2_drawLastTwo 45 = .ok (.lload_n 2, 1) := by decide +kernel
theorem dX2_drawLastTwo_46 : decode cX2_drawLastTwo 46 = .ok (.aload_n 0, 1) := by decide +kernel
theorem dX2_drawLastTwo_47 : decode cX2_drawLastTwo 47 = .ok (.aload_n 0, 1) := by decide +kernel
theorem dX2_drawLastTwo_48 : decode cX2_drawLastTwo 48 = .ok (.getfield 18, 3) := by decide +kernel
theorem dX2_drawLastTwo_51 : decode cX2_drawLastTwo 51 = .ok (.iconst 2, 1) := by decide +kernel
theorem dX2_drawLastTwo_52 : decode cX2_drawLastTwo 52 = .ok (.iaload, 1) := by decide +kernel
theorem dX2_drawLastTwo_53 : decode cX2_drawLastTwo 53 = .ok (.iload 4, 2) := by decide +kernel
theorem dX2_drawLastTwo_55 : decode cX2_drawLastTwo 55 = .ok (.invokevirtual 125, 3) := by decide +kernel
theorem dX2_drawLastTwo_58 : decode cX2_drawLastTwo 58 = .ok (.lmul, 1) := by decide +kernel
theorem dX2_drawLastTwo_59 : decode cX2_drawLastTwo 59 = .ok (.aload_n 0, 1) := by decide +kernel
theorem dX2_drawLastTwo_60 : decode cX2_drawLastTwo 60 = .ok (.aload_n 0, 1) := by decide +kernel
theorem dX2_drawLastTwo_61 : decode cX2_drawLastTwo 61 = .ok (.getfield 18, 3) := by decide +kernel
theorem dX2_drawLastTwo_64 : decode cX2_drawLastTwo 64 = .ok (.iconst 3, 1) := by decide +kernel
theorem dX2_drawLastTwo_65 : decode cX2_drawLastTwo 65 = .ok (.iaload, 1) := by decide +kernel
theorem dX2_drawLastTwo_66 : decode cX2_drawLastTwo 66 = .ok (.iload_n 1, 1) := by decide +kernel
theorem dX2_drawLastTwo_67 : decode cX2_drawLastTwo 67 = .ok (.iload 4, 2) := by decide +kernel
theorem dX2_drawLastTwo_69 : decode cX2_drawLastTwo 69 = .ok (.isub, 1) := by decide +kernel
theorem dX2_drawLastTwo_70 : decode cX2_drawLastTwo 70 = .ok (.invokevirtual 125, 3) := by decide +kernel
theorem dX2_drawLastTwo_73 : decode cX2_drawLastTwo 73 = .ok (.lmul, 1) := by decide +kernel
theorem dX2_drawLastTwo_74 : decode cX2_drawLastTwo 74 = .ok (.invokevirtual 165, 3) := by decide +kernel
theorem dX2_drawLastTwo_77 : decode cX2_drawLastTwo 77 = .ok (.ifCond .ne 5, 3) := by decide +kernel
theorem dX2_drawLastTwo_80 : decode cX2_drawLastTwo 80 = .ok (.iconst 0, 1) := by decide +kernel
theorem dX2_drawLastTwo_81 : decode cX2_drawLastTwo 81 = .ok (.ireturn, 1) := by decide +kernel
theorem dX2_drawLastTwo_82 : decode cX2_drawLastTwo 82 = .ok (.iinc 4 1, 3) := by decide +kernel
theorem dX2_drawLastTwo_85 : decode cX2_drawLastTwo 85 = .ok (.goto (-71), 3) := by decide +kernel
theorem dX2_drawLastTwo_88 : decode cX2_drawLastTwo 88 = .ok (.iconst 1, 1) := by decide +kernel
theorem dX2_drawLastTwo_89 : decode cX2_drawLastTwo 89 = .ok (.ireturn, 1) := by decide +kernel
theorem dX2_findEnough_0 : decode cX2_findEnough 0 = .ok (.iconst 0, 1) := by decide +kernel
theorem dX2_findEnough_1 : decode cX2_findEnough 1 = .ok (.istore_n 2, 1) := by decide +kernel
theorem dX2_findEnough_2 : decode cX2_findEnough 2 = .ok (.iload_n 2, 1) := by decide +kernel
theorem dX2_findEnough_3 : decode cX2_findEnough 3 = .ok (.iconst 4, 1) := by decide +kernel
theorem dX2_findEnough_4 : decode cX2_findEnough 4 = .ok (.if_icmp .ge 64, 3) := by decide +kernel
theorem dX2_findEnough_7 : decode cX2_findEnough 7 = .ok (.iconst 0, 1) := by decide +kernel
theorem dX2_findEnough_8 : decode cX2_findEnough 8 = .ok (.istore_n 3, 1) := by decide +kernel
theorem dX2_findEnough_9 : decode cX2_findEnough 9 = .ok (.iconst 0, 1) := by decide +kernel
theorem dX2_findEnough_10 : decode cX2_findEnough 10 = .ok (.istore 4, 2) := by decide +kernel
theorem dX2_findEnough_12 : decode cX2_findEnough 12 = .ok (.iload 4, 2) := by decide +kernel
theorem dX2_findEnough_14 : decode cX2_findEnough 14 = .ok (.iconst 4, 1) := by decide +kernel
theorem dX2_findEnough_15 : decode cX2_findEnough 15 = .ok (.if_icmp .ge 31, 3) := by decide +kernel
theorem dX2_findEnough_18 : decode cX2_findEnough 18 = .ok (.iload_n 3, 1) := by decide +kernel
theorem dX2_findEnough_19 : decode cX2_findEnough 19 = .ok (.aload_n 0, 1) := by decide +kernel
theorem dX2_findEnough_20 : decode cX2_findEnough 20 = .ok (.getfield 35, 3) := by decide +kernel
theorem dX2_findEnough_23 : decode cX2_findEnough 23 = .ok (.iload 4, 2) := by decide +kernel
theorem dX2_findEnough_25 : decode cX2_findEnough 25 = .ok (.iconst 4, 1) := by decide +kernel
theorem dX2_findEnough_26 : decode cX2_findEnough 26 = .ok (.imul, 1) := by decide +kernel
theorem dX2_findEnough_27 : decode cX2_findEnough 27 = .ok (.iload_n 2, 1) := by decide +kernel
theorem dX2_findEnough_28 : decode cX2_findEnough 28 = .ok (.iadd, 1) := by decide +kernel
theorem dX2_findEnough_29 : decode cX2_findEnough 29 = .ok (.iaload, 1) := by decide +kernel
theorem dX2_findEnough_30 : decode cX2_findEnough 30 = .ok (.aload_n 0, 1) := by decide +kernel
theorem dX2_findEnough_31 : decode cX2_findEnough 31 = .ok (.getfield 18, 3) := by decide +kernel
theorem dX2_findEnough_34 : decode cX2_findEnough 34 = .ok (.iload 4, 2) := by decide +kernel
theorem dX2_findEnough_36 : decode cX2_findEnough 36 = .ok (.iaload, 1) := by decide +kernel
theorem dX2_findEnough_37 : decode cX2_findEnough 37 = .ok (.imul, 1) := by decide +kernel
theorem dX2_findEnough_38 : decode cX2_findEnough 38 = .ok (.iadd, 1) := by decide +kernel
theorem dX2_findEnough_39 : decode cX2_findEnough 39 = .ok (.istore_n 3, 1) := by decide +kernel
theorem dX2_findEnough_40 : decode cX2_findEnough 40 = .ok (.iinc 4 1, 3) := by decide +kernel
theorem dX2_findEnough_43 : decode cX2_findEnough 43 = .ok (.goto (-31), 3) := by decide +kernel
theorem dX2_findEnough_46 : decode cX2_findEnough 46 = .ok (.aload_n 0, 1) := by decide +kernel
theorem dX2_findEnough_47 : decode cX2_findEnough 47 = .ok (.getfield 25, 3) := by decide +kernel
theorem dX2_findEnough_50 : decode cX2_findEnough 50 = .ok (.iload_n 2, 1) := by decide +kernel
theorem dX2_findEnough_51 : decode cX2_findEnough 51 = .ok (.iload_n 3, 1) := by decide +kernel
theorem dX2_findEnough_52 : decode cX2_findEnough 52 = .ok (.iload_n 1, 1) := by decide +kernel
theorem dX2_findEnough_53 : decode cX2_findEnough 53 = .ok (.if_icmp .lt 7, 3) := by decide +kernel
theorem dX2_findEnough_56 : decode cX2_findEnough 56 = .ok (.iconst 1, 1) := by decide +kernel
theorem dX2_findEnough_57 : decode cX2_findEnough 57 = .ok (.goto 4, 3) := by decide +kernel
theorem dX2_findEnough_60 : decode cX2_findEnough 60 = .ok (.iconst 0, 1) := by decide +kernel
theorem dX2_findEnough_61 : decode cX2_findEnough 61 = .ok (.bastore, 1) := by decide +kernel
theorem dX2_findEnough_62 : decode cX2_findEnough 62 = .ok (.iinc 2 1, 3) := by decide +kernel
theorem dX2_findEnough_65 : decode cX2_findEnough 65 = .ok (.goto (-63), 3) := by decide +kernel
theorem dX2_findEnough_68 : decode cX2_findEnough 68 = .ok (.return_, 1) := by decide +kernel
set_option maxRecDepth 20000 in
theorem ggX2_chooseFirst_J7_fill_53178 : GoodIn wsX2_chooseFirst wsJ7_fill_53178 := goodIn_r _ [9] (by decide +kernel) (by decide +kernel)
set_option maxRecDepth 20000 in
theorem gX2_chooseFirst_J7_fill_53178 : GoodIn wsX2_chooseFirst (va_wsS RX2 149 yJ7_fill_53178 wsJ7_fill_53178) := goodIn_app (goodIn_of _ (by decide +kernel)) ggX2_chooseFirst_J7_fill_53178
set_option maxRecDepth 20000 in
theorem ggX2_chooseFirst_X0_isParty : GoodIn wsX2_chooseFirst wsX0_isParty := goodIn_r _ [13] (by decide +kernel) (by decide +kernel)
set_option maxRecDepth 20000 in
theorem gX2_chooseFirst_X0_isParty : GoodIn wsX2_chooseFirst (va_wsS RX2 169 yX0_isParty wsX0_isParty) := goodIn_app (goodIn_of _ (by decide +kernel)) ggX2_chooseFirst_X0_isParty
theorem dX2_chooseFirst_0 : decode cX2_chooseFirst 0 = .ok (.aload_n 0, 1) := by decide +kernel
theorem dX2_chooseFirst_1 : decode cX2_chooseFirst 1 = .ok (.getfield 22, 3) := by decide +kernel
theorem dX2_chooseFirst_4 : decode cX2_chooseFirst 4 = .ok (.iconst 0, 1) := by decide +kernel
theorem dX2_chooseFirst_5 : decode cX2_chooseFirst 5 = .ok (.invokestatic 149, 3) := by decide +kernel
theorem dX2_chooseFirst_8 : decode cX2_chooseFirst 8 = .ok (.iconst 0, 1) := by decide +kernel
theorem dX2_chooseFirst_9 : decode cX2_chooseFirst 9 = .ok (.istore_n 2, 1) := by decide +kernel
theorem dX2_chooseFirst_10 : decode cX2_chooseFirst 10 = .ok (.iconst 0, 1) := by decide +kernel
theorem dX2_chooseFirst_11 : decode cX2_chooseFirst 11 = .ok (.istore_n 3, 1) := by decide +kernel
theorem dX2_chooseFirst_12 : decode cX2_chooseFirst 12 = .ok (.iload_n 3, 1) := by decide +kernel
theorem dX2_chooseFirst_13 : decode cX2_chooseFirst 13 = .ok (.aload_n 0, 1) := by decide +kernel
theorem dX2_chooseFirst_14 : decode cX2_chooseFirst 14 = .ok (.getfield 135, 3) := by decide +kernel
theorem dX2_chooseFirst_17 : decode cX2_chooseFirst 17 = .ok (.if_icmp .ge 61, 3) := by decide +kernel
theorem dX2_chooseFirst_20 : decode cX2_chooseFirst 20 = .ok (.aload_n 0, 1) := by decide +kernel
theorem dX2_chooseFirst_21 : decode cX2_chooseFirst 21 = .ok (.getfield 32, 3) := by decide +kernel
theorem dX2_chooseFirst_24 : decode cX2_chooseFirst 24 = .ok (.iload_n 3, 1) := by decide +kernel
theorem dX2_chooseFirst_25 : decode cX2_chooseFirst 25 = .ok (.iaload, 1) := by decide +kernel
theorem dX2_chooseFirst_26 : decode cX2_chooseFirst 26 = .ok (.istore 4, 2) := by decide +kernel
theorem dX2_chooseFirst_28 : decode cX2_chooseFirst 28 = .ok (.iload 4, 2) := by decide +kernel
theorem dX2_chooseFirst_30 : decode cX2_chooseFirst 30 = .ok (.invokestatic 169, 3) := by decide +kernel
theorem dX2_chooseFirst_33 : decode cX2_chooseFirst 33 = .ok (.ifCond .eq 39, 3) := by decide +kernel
theorem dX2_chooseFirst_36 : decode cX2_chooseFirst 36 = .ok (.aload_n 0, 1) := by decide +kernel
theorem dX2_chooseFirst_37 : decode cX2_chooseFirst 37 = .ok (.getfield 25, 3) := by decide +kernel
theorem dX2_chooseFirst_40 : decode cX2_chooseFirst 40 = .ok (.iload 4, 2) := by decide +kernel
theorem dX2_chooseFirst_42 : decode cX2_chooseFirst 42 = .ok (.baload, 1) := by decide +kernel
theorem dX2_chooseFirst_43 : decode cX2_chooseFirst 43 = .ok (.ifCond .eq 29, 3) := by decide +kernel
theorem dX2_chooseFirst_46 : decode cX2_chooseFirst 46 = .ok (.aload_n 0, 1) := by decide +kernel
theorem dX2_chooseFirst_47 : decode cX2_chooseFirst 47 = .ok (.getfield 22, 3) := by decide +kernel
theorem dX2_chooseFirst_50 : decode cX2_chooseFirst 50 = .ok (.iload 4, 2) := by decide +kernel
theorem dX2_chooseFirst_52 : decode cX2_chooseFirst 52 = .ok (.dup2, 1) := by decide +kernel
theorem dX2_chooseFirst_53 : decode cX2_chooseFirst 53 = .ok (.iaload, 1) := by decide +kernel
theorem dX2_chooseFirst_54 : decode cX2_chooseFirst 54 = .ok (.iconst 1, 1) := by decide +kernel
theorem dX2_chooseFirst_55 : decode cX2_chooseFirst 55 = .ok (.iadd, 1) := by decide +kernel
theorem dX2_chooseFirst_56 : decode cX2_chooseFirst 56 = .ok (.iastore, 1) := by decide +kernel
theorem dX2_chooseFirst_57 : decode cX2_chooseFirst 57 = .ok (.iinc 2 1, 3) := by decide +kernel
theorem dX2_chooseFirst_60 : decode cX2_chooseFirst 60 = .ok (.iload_n 2, 1) := by decide +kernel
theorem dX2_chooseFirst_61 : decode cX2_chooseFirst 61 = .ok (.iload_n 1, 1) := by decide +kernel
theorem dX2_chooseFirst_62 : decode cX2_chooseFirst 62 = .ok (.if_icmp .lt 10, 3) := by decide +kernel
theorem dX2_chooseFirst_65 : decode cX2_chooseFirst 65 = .ok (.aload_n 0, 1) := by decide +kernel
theorem dX2_chooseFirst_66 : decode cX2_chooseFirst 66 = .ok (.getfield 29, 3) := by decide +kernel
theorem dX2_chooseFirst_69 : decode cX2_chooseFirst 69 = .ok (.iload_n 3, 1) := by decide +kernel
theorem dX2_chooseFirst_70 : decode cX2_chooseFirst 70 = .ok (.iaload, 1) := by decide +kernel
theorem dX2_chooseFirst_71 : decode cX2_chooseFirst 71 = .ok (.ireturn, 1) := by decide +kernel
theorem dX2_chooseFirst_72 : decode cX2_chooseFirst 72 = .ok (.iinc 3 1, 3) := by decide +kernel
theorem dX2_chooseFirst_75 : decode cX2_chooseFirst 75 = .ok (.goto (-63), 3) := by decide +kernel
theorem dX2_chooseFirst_78 : decode cX2_chooseFirst 78 = .ok (.iconst (-1), 1) := by decide +kernel
theorem dX2_chooseFirst_79 : decode cX2_chooseFirst 79 = .ok (.ireturn, 1) := by decide +kernel
theorem dX3_init_0 : decode cX3_init 0 = .ok (.aload_n 0, 1) := by decide +kernel
theorem dX3_init_1 : decode cX3_init 1 = .ok (.invokespecial 3, 3) := by decide +kernel
theorem dX3_init_4 : decode cX3_init 4 = .ok (.aload_n 0, 1) := by decide +kernel
theorem dX3_init_5 : decode cX3_init 5 = .ok (.bipush 12, 2) := by decide +kernel
theorem dX3_init_7 : decode cX3_init 7 = .ok (.newarray .int, 2) := by decide +kernel
theorem dX3_init_9 : decode cX3_init 9 = .ok (.putfield 9, 3) := by decide +kernel
theorem dX3_init_12 : decode cX3_init 12 = .ok (.aload_n 0, 1) := by decide +kernel
theorem dX3_init_13 : decode cX3_init 13 = .ok (.bipush 12, 2) := by decide +kernel
theorem dX3_init_15 : decode cX3_init 15 = .ok (.newarray .int, 2) := by decide +kernel
theorem dX3_init_17 : decode cX3_init 17 = .ok (.putfield 15, 3) := by decide +kernel
theorem dX3_init_20 : decode cX3_init 20 = .ok (.aload_n 0, 1) := by decide +kernel
theorem dX3_init_21 : decode cX3_init 21 = .ok (.bipush 12, 2) := by decide +kernel
theorem dX3_init_23 : decode cX3_init 23 = .ok (.newarray .int, 2) := by decide +kernel
theorem dX3_init_25 : decode cX3_init 25 = .ok (.putfield 18, 3) := by decide +kernel
theorem dX3_init_28 : decode cX3_init 28 = .ok (.aload_n 0, 1) := by decide +kernel
theorem dX3_init_29 : decode cX3_init 29 = .ok (.bipush 12, 2) := by decide +kernel
theorem dX3_init_31 : decode cX3_init 31 = .ok (.newarray .int, 2) := by decide +kernel
theorem dX3_init_33 : decode cX3_init 33 = .ok (.putfield 21, 3) := by decide +kernel
theorem dX3_init_36 : decode cX3_init 36 = .ok (.return_, 1) := by decide +kernel
theorem dX3_length_0 : decode cX3_length 0 = .ok (.aload_n 0, 1) := by decide +kernel
theorem dX3_length_1 : decode cX3_length 1 = .ok (.getfield 24, 3) := by decide +kernel
theorem dX3_length_4 : decode cX3_length 4 = .ok (.ireturn, 1) := by decide +kernel
theorem dX3_clear_0 : decode cX3_clear 0 = .ok (.aload_n 0, 1) := by decide +kernel
theorem dX3_clear_1 : decode cX3_clear 1 = .ok (.iconst 0, 1) := by decide +kernel
theorem dX3_clear_2 : decode cX3_clear 2 = .ok (.putfield 24, 3) := by decide +kernel
theorem dX3_clear_5 : decode cX3_clear 5 = .ok (.return_, 1) := by decide +kernel
theorem dX3_add_0 : decode cX3_add 0 = .ok (.aload_n 0, 1) := by decide +kernel
theorem dX3_add_1 : decode cX3_add 1 = .ok (.getfield 24, 3) := by decide +kernel
theorem dX3_add_4 : decode cX3_add 4 = .ok (.bipush 12, 2) := by decide +kernel
theorem dX3_add_6 : decode cX3_add 6 = .ok (.if_icmp .ge 54, 3) := by decide +kernel
theorem dX3_add_9 : decode cX3_add 9 = .ok (.aload_n 0, 1) := by decide +kernel
theorem dX3_add_10 : decode cX3_add 10 = .ok (.getfield 9, 3) := by decide +kernel
theorem dX3_add_13 : decode cX3_add 13 = .ok (.aload_n 0, 1) := by decide +kernel
theorem dX3_add_14 : decode cX3_add 14 = .ok (.getfield 24, 3) := by decide +kernel
theorem dX3_add_17 : decode cX3_add 17 = .ok (.iload_n 1, 1) := by decide +kernel
theorem dX3_add_18 : decode cX3_add 18 = .ok (.iastore, 1) := by decide +kernel
theorem dX3_add_19 : decode cX3_add 19 = .ok (.aload_n 0, 1) := by decide +kernel
theorem dX3_add_20 : decode cX3_add 20 = .ok (.getfield 15, 3) := by decide +kernel
theorem dX3_add_23 : decode cX3_add 23 = .ok (.aload_n 0, 1) := by decide +kernel
theorem dX3_add_24 : decode cX3_add 24 = .ok (.getfield 24, 3) := by decide +kernel
theorem dX3_add_27 : decode cX3_add 27 = .ok (.iload_n 2, 1) := by decide +kernel
theorem dX3_add_28 : decode cX3_add 28 = .ok (.iastore, 1) := by decide +kernel
theorem dX3_add_29 : decode cX3_add 29 = .ok (.aload_n 0, 1) := by decide +kernel
theorem dX3_add_30 : decode cX3_add 30 = .ok (.getfield 18, 3) := by decide +kernel
theorem dX3_add_33 : decode cX3_add 33 = .ok (.aload_n 0, 1) := by decide +kernel
theorem dX3_add_34 : decode cX3_add 34 = .ok (.getfield 24, 3) := by decide +kernel
theorem dX3_add_37 : decode cX3_add 37 = .ok (.iload_n 3, 1) := by decide +kernel
theorem dX3_add_38 : decode cX3_add 38 = .ok (.iastore, 1) := by decide +kernel
theorem dX3_add_39 : decode cX3_add 39 = .ok (.aload_n 0, 1) := by decide +kernel
theorem dX3_add_40 : decode cX3_add 40 = .ok (.getfield 21, 3) := by decide +kernel
theorem dX3_add_43 : decode cX3_add 43 = .ok (.aload_n 0, 1) := by decide +kernel
theorem dX3_add_44 : decode cX3_add 44 = .ok (.getfield 24, 3) := by decide +kernel
theorem dX3_add_47 : decode cX3_add 47 = .ok (.iload 4, 2) := by decide +kernel
theorem dX3_add_49 : decode cX3_add 49 = .ok (.iastore, 1) := by decide +kernel
theorem dX3_add_50 : decode cX3_add 50 = .ok (.aload_n 0, 1) := by decide +kernel
theorem dX3_add_51 : decode cX3_add 51 = .ok (.dup, 1) := by decide +kernel
theorem dX3_add_52 : decode cX3_add 52 = .ok (.getfield 24, 3) := by decide +kernel
theorem dX3_add_55 : decode cX3_add 55 = .ok (.iconst 1, 1) := by decide +kernel
theorem dX3_add_56 : decode cX3_add 56 = .ok (.iadd, 1) := by decide +kernel
theorem dX3_add_57 : decode cX3_add 57 = .ok (.putfield 24, 3) := by decide +kernel
theorem dX3_add_60 : decode cX3_add 60 = .ok (.return_, 1) := by decide +kernel
theorem dX3_has_0 : decode cX3_has 0 = .ok (.iload_n 1, 1) := by decide +kernel
theorem dX3_has_1 : decode cX3_has 1 = .ok (.ifCond .lt 15, 3) := by decide +kernel
theorem dX3_has_4 : decode cX3_has 4 = .ok (.iload_n 1, 1) := by decide +kernel
theorem dX3_has_5 : decode cX3_has 5 = .ok (.aload_n 0, 1) := by decide +kernel
theorem dX3_has_6 : decode cX3_has 6 = .ok (.getfield 24, 3) := by decide +kernel
theorem dX3_has_9 : decode cX3_has 9 = .ok (.if_icmp .ge 7, 3) := by decide +kernel
theorem dX3_has_12 : decode cX3_has 12 = .ok (.iconst 1, 1) := by decide +kernel
theorem dX3_has_13 : decode cX3_has 13 = .ok (.goto 4, 3) := by decide +kernel
theorem dX3_has_16 : decode cX3_has 16 = .ok (.iconst 0, 1) := by decide +kernel
theorem dX3_has_17 : decode cX3_has 17 = .ok (.ireturn, 1) := by decide +kernel
set_option maxRecDepth 20000 in
theorem ggX3_kindOf_X3_has : GoodIn wsX3_kindOf wsX3_has := goodIn_r _ [6, 7, 8, 9, 10, 11, 12] (by decide +kernel) (by decide +kernel)
set_option maxRecDepth 20000 in
theorem gX3_kindOf_X3_has : GoodIn wsX3_kindOf (wsV RX3 28 RX3 yX3_has wsX3_has) := goodIn_app (goodIn_of _ (by decide +kernel)) ggX3_kindOf_X3_has
theorem dX3_kindOf_0 : decode cX3_kindOf 0 = .ok (.aload_n 0, 1) := by decide +kernel
theorem dX3_kindOf_1 : decode cX3_kindOf 1 = .ok (.iload_n 1, 1) := by decide +kernel
theorem dX3_kindOf_2 : decode cX3_kindOf 2 = .ok (.invokevirtual 28, 3) := by decide +kernel
theorem dX3_kindOf_5 : decode cX3_kindOf 5 = .ok (.ifCond .eq 12, 3) := by decide +kernel
theorem dX3_kindOf_8 : decode cX3_kindOf 8 = .ok (.aload_n 0, 1) := by decide +kernel
theorem dX3_kindOf_9 : decode cX3_kindOf 9 = .ok (.getfield 9, 3) := by decide +kernel
theorem dX3_kindOf_12 : decode cX3_kindOf 12 = .ok (.iload_n 1, 1) := by decide +kernel
theorem dX3_kindOf_13 : decode cX3_kindOf 13 = .ok (.iaload, 1) := by decide +kernel
theorem dX3_kindOf_14 : decode cX3_kindOf 14 = .ok (.goto 4, 3) := by decide +kernel
theorem dX3_kindOf_17 : decode cX3_kindOf 17 = .ok (.iconst 0, 1) := by decide +kernel
theorem dX3_kindOf_18 : decode cX3_kindOf 18 = .ok (.ireturn, 1) := by decide +kernel
set_option maxRecDepth 20000 in
theorem ggX3_sizeOf_X3_has : GoodIn wsX3_sizeOf wsX3_has := goodIn_r _ [6, 7, 8, 9, 10, 11, 12] (by decide +kernel) (by decide +kernel)
set_option maxRecDepth 20000 in
theorem gX3_sizeOf_X3_has : GoodIn wsX3_sizeOf (wsV RX3 28 RX3 yX3_has wsX3_has) := goodIn_app (goodIn_of _ (by decide +kernel)) ggX3_sizeOf_X3_has
theorem dX3_sizeOf_0 : decode cX3_sizeOf 0 = .ok (.aload_n 0, 1) := by decide +kernel
theorem dX3_sizeOf_1 : decode cX3_sizeOf 1 = .ok (.iload_n 1, 1) := by decide +kernel
theorem dX3_sizeOf_2 : decode cX3_sizeOf 2 = .ok (.invokevirtual 28, 3) := by decide +kernel
theorem dX3_sizeOf_5 : decode cX3_sizeOf 5 = .ok (.ifCond .eq 12, 3) := by decide +kernel
theorem dX3_sizeOf_8 : decode cX3_sizeOf 8 = .ok (.aload_n 0, 1) := by decide +kernel
theorem dX3_sizeOf_9 : decode cX3_sizeOf 9 = .ok (.getfield 15, 3) := by decide +kernel
theorem dX3_sizeOf_12 : decode cX3_sizeOf 12 = .ok (.iload_n 1, 1) := by decide +kernel
theorem dX3_sizeOf_13 : decode cX3_sizeOf 13 = .ok (.iaload, 1) := by decide +kernel
theorem dX3_sizeOf_14 : decode cX3_sizeOf 14 = .ok (.goto 4, 3) := by decide +kernel
theorem dX3_sizeOf_17 : decode cX3_sizeOf 17 = .ok (.iconst 0, 1) := by decide +kernel
theorem dX3_sizeOf_18 : decode cX3_sizeOf 18 = .ok (.ireturn, 1) := by decide +kernel
set_option maxRecDepth 20000 in
theorem ggX3_votesOf_X3_has : GoodIn wsX3_votesOf wsX3_has := goodIn_r _ [6, 7, 8, 9, 10, 11, 12] (by decide +kernel) (by decide +kernel)
set_option maxRecDepth 20000 in
theorem gX3_votesOf_X3_has : GoodIn wsX3_votesOf (wsV RX3 28 RX3 yX3_has wsX3_has) := goodIn_app (goodIn_of _ (by decide +kernel)) ggX3_votesOf_X3_has
theorem dX3_votesOf_0 : decode cX3_votesOf 0 = .ok (.aload_n 0, 1) := by decide +kernel
theorem dX3_votesOf_1 : decode cX3_votesOf 1 = .ok (.iload_n 1, 1) := by decide +kernel
theorem dX3_votesOf_2 : decode cX3_votesOf 2 = .ok (.invokevirtual 28, 3) := by decide +kernel
theorem dX3_votesOf_5 : decode cX3_votesOf 5 = .ok (.ifCond .eq 12, 3) := by decide +kernel
theorem dX3_votesOf_8 : decode cX3_votesOf 8 = .ok (.aload_n 0, 1) := by decide +kernel
theorem dX3_votesOf_9 : decode cX3_votesOf 9 = .ok (.getfield 18, 3) := by decide +kernel
theorem dX3_votesOf_12 : decode cX3_votesOf 12 = .ok (.iload_n 1, 1) := by decide +kernel
theorem dX3_votesOf_13 : decode cX3_votesOf 13 = .ok (.iaload, 1) := by decide +kernel
theorem dX3_votesOf_14 : decode cX3_votesOf 14 = .ok (.goto 4, 3) := by decide +kernel
theorem dX3_votesOf_17 : decode cX3_votesOf 17 = .ok (.iconst 0, 1) := by decide +kernel
theorem dX3_votesOf_18 : decode cX3_votesOf 18 = .ok (.ireturn, 1) := by decide +kernel
set_option maxRecDepth 20000 in
theorem ggX3_limitOf_X3_has : GoodIn wsX3_limitOf wsX3_has := goodIn_r _ [6, 7, 8, 9, 10, 11, 12] (by decide +kernel) (by decide +kernel)
set_option maxRecDepth 20000 in
theorem gX3_limitOf_X3_has : GoodIn wsX3_limitOf (wsV RX3 28 RX3 yX3_has wsX3_has) := goodIn_app (goodIn_of _ (by decide +kernel)) ggX3_limitOf_X3_has
theorem dX3_limitOf_0 : decode cX3_limitOf 0 = .ok (.aload_n 0, 1) := by decide +kernel
theorem dX3_limitOf_1 : decode cX3_limitOf 1 = .ok (.iload_n 1, 1) := by decide +kernel
theorem dX3_limitOf_2 : decode cX3_limitOf 2 = .ok (.invokevirtual 28, 3) := by decide +kernel
theorem dX3_limitOf_5 : decode cX3_limitOf 5 = .ok (.ifCond .eq 12, 3) := by decide +kernel
theorem dX3_limitOf_8 : decode cX3_limitOf 8 = .ok (.aload_n 0, 1) := by decide +kernel
theorem dX3_limitOf_9 : decode cX3_limitOf 9 = .ok (.getfield 21, 3) := by decide +kernel
theorem dX3_limitOf_12 : decode cX3_limitOf 12 = .ok (.iload_n 1, 1) := by decide +kernel
theorem dX3_limitOf_13 : decode cX3_limitOf 13 = .ok (.iaload, 1) := by decide +kernel
theorem dX3_limitOf_14 : decode cX3_limitOf 14 = .ok (.goto 4, 3) := by decide +kernel
theorem dX3_limitOf_17 : decode cX3_limitOf 17 = .ok (.iconst 0, 1) := by decide +kernel
theorem dX3_limitOf_18 : decode cX3_limitOf 18 = .ok (.ireturn, 1) := by decide +kernel
theorem dX4_init_0 : decode cX4_init 0 = .ok (.aload_n 0, 1) := by decide +kernel
theorem dX4_init_1 : decode cX4_init 1 = .ok (.invokespecial 3, 3) := by decide +kernel
theorem dX4_init_4 : decode cX4_init 4 = .ok (.aload_n 0, 1) := by decide +kernel
theorem dX4_init_5 : decode cX4_init 5 = .ok (.bipush 40, 2) := by decide +kernel
theorem dX4_init_7 : decode cX4_init 7 = .ok (.newarray .int, 2) := by decide +kernel
theorem dX4_init_9 : decode cX4_init 9 = .ok (.putfield 9, 3) := by decide +kernel
theorem dX4_init_12 : decode cX4_init 12 = .ok (.return_, 1) := by decide +kernel
set_option maxRecDepth 20000 in
theorem ggX4_open_J7_fill_53178 : GoodIn wsX4_open wsJ7_fill_53178 := goodIn_r _ [9] (by decide +kernel) (by decide +kernel)
set_option maxRecDepth 20000 in
theorem gX4_open_J7_fill_53178 : GoodIn wsX4_open (va_wsS RX4 29 yJ7_fill_53178 wsJ7_fill_53178) := goodIn_app (goodIn_of _ (by decide +kernel)) ggX4_open_J7_fill_53178
theorem dX4_open_0 : decode cX4_open 0 = .ok (.aload_n 0, 1) := by decide +kernel
theorem dX4_open_1 : decode cX4_open 1 = .ok (.iconst 1, 1) := by decide +kernel
theorem dX4_open_2 : decode cX4_open 2 = .ok (.putfield 15, 3) := by decide +kernel
theorem dX4_open_5 : decode cX4_open 5 = .ok (.aload_n 0, 1) := by decide +kernel
theorem dX4_open_6 : decode cX4_open 6 = .ok (.iconst 0, 1) := by decide +kernel
theorem dX4_open_7 : decode cX4_open 7 = .ok (.putfield 19, 3) := by decide +kernel
theorem dX4_open_10 : decode cX4_open 10 = .ok (.aload_n 0, 1) := by decide +kernel
theorem dX4_open_11 : decode cX4_open 11 = .ok (.iconst 0, 1) := by decide +kernel
theorem dX4_open_12 : decode cX4_open 12 = .ok (.putfield 23, 3) := by decide +kernel
theorem dX4_open_15 : decode cX4_open 15 = .ok (.aload_n 0, 1) := by decide +kernel
theorem dX4_open_16 : decode cX4_open 16 = .ok (.iconst 0, 1) := by decide +kernel
theorem dX4_open_17 : decode cX4_open 17 = .ok (.putfield 26, 3) := by decide +kernel
theorem dX4_open_20 : decode cX4_open 20 = .ok (.aload_n 0, 1) := by decide +kernel
theorem dX4_open_21 : decode cX4_open 21 = .ok (.getfield 9, 3) := by decide +kernel
theorem dX4_open_24 : decode cX4_open 24 = .ok (.iconst (-1), 1) := by decide +kernel
theorem dX4_open_25 : decode cX4_open 25 = .ok (.invokestatic 29, 3) := by decide +kernel
theorem dX4_open_28 : decode cX4_open 28 = .ok (.return_, 1) := by decide +kernel
theorem dX4_bar_0 : decode cX4_bar 0 = .ok (.aload_n 0, 1) := by decide +kernel
theorem dX4_bar_1 : decode cX4_bar 1 = .ok (.dup, 1) := by decide +kernel
theorem dX4_bar_2 : decode cX4_bar 2 = .ok (.getfield 19, 3) := by decide +kernel
theorem dX4_bar_5 : decode cX4_bar 5 = .ok (.iconst 1, 1) := by decide +kernel
theorem dX4_bar_6 : decode cX4_bar 6 = .ok (.iadd, 1) := by decide +kernel
theorem dX4_bar_7 : decode cX4_bar 7 = .ok (.putfield 19, 3) := by decide +kernel
theorem dX4_bar_10 : decode cX4_bar 10 = .ok (.return_, 1) := by decide +kernel
theorem dX4_note_0 : decode cX4_note 0 = .ok (.iload_n 1, 1) := by decide +kernel
theorem dX4_note_1 : decode cX4_note 1 = .ok (.ifCond .lt 9, 3) := by decide +kernel
theorem dX4_note_4 : decode cX4_note 4 = .ok (.iload_n 1, 1) := by decide +kernel
theorem dX4_note_5 : decode cX4_note 5 = .ok (.bipush 40, 2) := by decide +kernel
theorem dX4_note_7 : decode cX4_note 7 = .ok (.if_icmp .lt 4, 3) := by decide +kernel
theorem dX4_note_10 : decode cX4_note 10 = .ok (.return_, 1) := by decide +kernel
theorem dX4_note_11 : decode cX4_note 11 = .ok (.aload_n 0, 1) := by decide +kernel
theorem dX4_note_12 : decode cX4_note 12 = .ok (.getfield 9, 3) := by decide +kernel
theorem dX4_note_15 : decode cX4_note 15 = .ok (.iload_n 1, 1) := by decide +kernel
theorem dX4_note_16 : decode cX4_note 16 = .ok (.iload_n 2, 1) := by decide +kernel
theorem dX4_note_17 : decode cX4_note 17 = .ok (.iastore, 1) := by decide +kernel
theorem dX4_note_18 : decode cX4_note 18 = .ok (.aload_n 0, 1) := by decide +kernel
theorem dX4_note_19 : decode cX4_note 19 = .ok (.dup, 1) := by decide +kernel
theorem dX4_note_20 : decode cX4_note 20 = .ok (.getfield 23, 3) := by decide +kernel
theorem dX4_note_23 : decode cX4_note 23 = .ok (.iconst 1, 1) := by decide +kernel
theorem dX4_note_24 : decode cX4_note 24 = .ok (.iadd, 1) := by decide +kernel
theorem dX4_note_25 : decode cX4_note 25 = .ok (.putfield 23, 3) := by decide +kernel
theorem dX4_note_28 : decode cX4_note 28 = .ok (.iload_n 3, 1) := by decide +kernel
theorem dX4_note_29 : decode cX4_note 29 = .ok (.ifCond .eq 13, 3) := by decide +kernel
theorem dX4_note_32 : decode cX4_note 32 = .ok (.aload_n 0, 1) := by decide +kernel
theorem dX4_note_33 : decode cX4_note 33 = .ok (.dup, 1) := by decide +kernel
theorem dX4_note_34 : decode cX4_note 34 = .ok (.getfield 26, 3) := by decide +kernel
theorem dX4_note_37 : decode cX4_note 37 = .ok (.iconst 1, 1) := by decide +kernel
theorem dX4_note_38 : decode cX4_note 38 = .ok (.iadd, 1) := by decide +kernel
theorem dX4_note_39 : decode cX4_note 39 = .ok (.putfield 26, 3) := by decide +kernel
theorem dX4_note_42 : decode cX4_note 42 = .ok (.return_, 1) := by decide +kernel
set_option maxRecDepth 20000 in
theorem ggX4_answer_X4_votesAt : GoodIn wsX4_answer wsX4_votesAt := goodIn_r _ [9, 10, 11, 12, 13, 14, 15] (by decide +kernel) (by decide +kernel)
set_option maxRecDepth 20000 in
theorem gX4_answer_X4_votesAt : GoodIn wsX4_answer (wsV RX4 35 RX4 yX4_votesAt wsX4_votesAt) := goodIn_app (goodIn_of _ (by decide +kernel)) ggX4_answer_X4_votesAt
theorem dX4_answer_0 : decode cX4_answer 0 = .ok (.aload_n 0, 1) := by decide +kernel
theorem dX4_answer_1 : decode cX4_answer 1 = .ok (.getfield 15, 3) := by decide +kernel
theorem dX4_answer_4 : decode cX4_answer 4 = .ok (.ifCond .ne 5, 3) := by decide +kernel
theorem dX4_answer_7 : decode cX4_answer 7 = .ok (.iconst (-1), 1) := by decide +kernel
theorem dX4_answer_8 : decode cX4_answer 8 = .ok (.ireturn, 1) := by decide +kernel
theorem dX4_answer_9 : decode cX4_answer 9 = .ok (.iload_n 1, 1) := by decide +kernel
theorem dX4_answer_10 : decode cX4_answer 10 = .ok (.tableswitch 41 0 2 #[26, 31, 36], 26) := by decide +kernel
theorem dX4_answer_36 : decode cX4_answer 36 = .ok (.aload_n 0, 1) := by decide +kernel
theorem dX4_answer_37 : decode cX4_answer 37 = .ok (.getfield 19, 3) := by decide +kernel
theorem dX4_answer_40 : decode cX4_answer 40 = .ok (.ireturn, 1) := by decide +kernel
theorem dX4_answer_41 : decode cX4_answer 41 = .ok (.aload_n 0, 1) := by decide +kernel
theorem dX4_answer_42 : decode cX4_answer 42 = .ok (.getfield 23, 3) := by decide +kernel
theorem dX4_answer_45 : decode cX4_answer 45 = .ok (.ireturn, 1) := by decide +kernel
theorem dX4_answer_46 : decode cX4_answer 46 = .ok (.aload_n 0, 1) := by decide +kernel
theorem dX4_answer_47 : decode cX4_answer 47 = .ok (.getfield 26, 3) := by decide +kernel
theorem dX4_answer_50 : decode cX4_answer 50 = .ok (.ireturn, 1) := by decide +kernel
theorem dX4_answer_51 : decode cX4_answer 51 = .ok (.aload_n 0, 1) := by decide +kernel
theorem dX4_answer_52 : decode cX4_answer 52 = .ok (.iload_n 1, 1) := by decide +kernel
theorem dX4_answer_53 : decode cX4_answer 53 = .ok (.invokevirtual 35, 3) := by decide +kernel
theorem dX4_answer_56 : decode cX4_answer 56 = .ok (.ireturn, 1) := by decide +kernel
theorem dX4_votesAt_0 : decode cX4_votesAt 0 = .ok (.iload_n 1, 1) := by decide +kernel
theorem dX4_votesAt_1 : decode cX4_votesAt 1 = .ok (.bipush 100, 2) := by decide +kernel
theorem dX4_votesAt_3 : decode cX4_votesAt 3 = .ok (.if_icmp .lt 14, 3) := by decide +kernel
theorem dX4_votesAt_6 : decode cX4_votesAt 6 = .ok (.iload_n 1, 1) := by decide +kernel
theorem dX4_votesAt_7 : decode cX4_votesAt 7 = .ok (.sipush 140, 3) := by decide +kernel
theorem dX4_votesAt_10 : decode cX4_votesAt 10 = .ok (.if_icmp .ge 7, 3) := by decide +kernel
theorem dX4_votesAt_13 : decode cX4_votesAt 13 = .ok (.iconst 1, 1) := by decide +kernel
theorem dX4_votesAt_14 : decode cX4_votesAt 14 = .ok (.goto 4, 3) := by decide +kernel
theorem dX4_votesAt_17 : decode cX4_votesAt 17 = .ok (.iconst 0, 1) := by decide +kernel
theorem dX4_votesAt_18 : decode cX4_votesAt 18 = .ok (.istore_n 2, 1) := by decide +kernel
theorem dX4_votesAt_19 : decode cX4_votesAt 19 = .ok (.iload_n 2, 1) := by decide +kernel
theorem dX4_votesAt_20 : decode cX4_votesAt 20 = .ok (.ifCond .eq 15, 3) := by decide +kernel
theorem dX4_votesAt_23 : decode cX4_votesAt 23 = .ok (.aload_n 0, 1) := by decide +kernel
theorem dX4_votesAt_24 : decode cX4_votesAt 24 = .ok (.getfield 9, 3) := by decide +kernel
theorem dX4_votesAt_27 : decode cX4_votesAt 27 = .ok (.iload_n 1, 1) := by decide +kernel
theorem dX4_votesAt_28 : decode cX4_votesAt 28 = .ok (.bipush 100, 2) := by decide +kernel
theorem dX4_votesAt_30 : decode cX4_votesAt 30 = .ok (.isub, 1) := by decide +kernel
theorem dX4_votesAt_31 : decode cX4_votesAt 31 = .ok (.iaload, 1) := by decide +kernel
theorem dX4_votesAt_32 : decode cX4_votesAt 32 = .ok (.goto 4, 3) := by decide +kernel
theorem dX4_votesAt_35 : decode cX4_votesAt 35 = .ok (.iconst (-1), 1) := by decide +kernel
theorem dX4_votesAt_36 : decode cX4_votesAt 36 = .ok (.ireturn, 1) := by decide +kernel
theorem dX5_init_0 : decode cX5_init 0 = .ok (.aload_n 0, 1) := by decide +kernel
theorem dX5_init_1 : decode cX5_init 1 = .ok (.invokespecial 3, 3) := by decide +kernel
theorem dX5_init_4 : decode cX5_init 4 = .ok (.aload_n 0, 1) := by decide +kernel
theorem dX5_init_5 : decode cX5_init 5 = .ok (.aload_n 1, 1) := by decide +kernel
theorem dX5_init_6 : decode cX5_init 6 = .ok (.putfield 9, 3) := by decide +kernel
theorem dX5_init_9 : decode cX5_init 9 = .ok (.return_, 1) := by decide +kernel
set_option maxRecDepth 20000 in
theorem ggX5_read_X3_clear : GoodIn wsX5_read wsX3_clear := goodIn_r _ [8, 9, 130, 131, 132, 133, 134] (by decide +kernel) (by decide +kernel)
set_option maxRecDepth 20000 in
theorem gX5_read_X3_clear : GoodIn wsX5_read (wsV RX5 25 RX3 yX3_clear wsX3_clear) := goodIn_app (goodIn_of _ (by decide +kernel)) ggX5_read_X3_clear
set_option maxRecDepth 20000 in
theorem ggX5_read_X5_readStep : GoodIn wsX5_read wsX5_readStep := goodIn_r _ [14, 1, 2, 3, 15, 16, 17, 13, 18, 19, 20, 21, 22, 23, 24, 25, 26, 27, 28, 29, 30, 31, 32, 33, 34, 35, 36, 37, 38, 39, 40, 41, 42, 43, 44, 45, 46, 47, 48, 49, 50, 51, 52, 53, 54, 55, 56, 57, 58, 59, 60, 61, 62, 63, 64, 65, 66, 67, 68, 69, 70, 71, 72, 73, 74, 75, 76, 77, 78, 79, 80, 81, 82, 83, 84, 85, 86, 87, 88, 89, 90, 91, 92, 93, 94, 95, 96, 97, 98, 99, 100, 101, 102, 103, 104, 105, 106, 107, 108, 109, 110, 111, 112, 113, 114, 115, 116, 117, 118, 119, 120, 7, 121, 9, 122, 123, 124, 125, 126, 127, 128, 129, 135, 136, 130, 131, 132, 133, 134] (by decide +kernel) (by decide +kernel)
set_option maxRecDepth 20000 in
theorem gX5_read_X5_readStep : GoodIn wsX5_read (wsV RX5 30 RX5 yX5_readStep wsX5_readStep) := goodIn_app (goodIn_of _ (by decide +kernel)) ggX5_read_X5_readStep
theorem dX5_read_0 : decode cX5_read 0 = .ok (.aload_n 0, 1) := by decide +kernel
theorem dX5_read_1 : decode cX5_read 1 = .ok (.iconst 0, 1) := by decide +kernel
theorem dX5_read_2 : decode cX5_read 2 = .ok (.putfield 15, 3) := by decide +kernel
theorem dX5_read_5 : decode cX5_read 5 = .ok (.aload_n 0, 1) := by decide +kernel
theorem dX5_read_6 : decode cX5_read 6 = .ok (.iconst 0, 1) := by decide +kernel
theorem dX5_read_7 : decode cX5_read 7 = .ok (.putfield 19, 3) := by decide +kernel
theorem dX5_read_10 : decode cX5_read 10 = .ok (.aload_n 0, 1) := by decide +kernel
theorem dX5_read_11 : decode cX5_read 11 = .ok (.iconst 0, 1) := by decide +kernel
theorem dX5_read_12 : decode cX5_read 12 = .ok (.putfield 22, 3) := by decide +kernel
theorem dX5_read_15 : decode cX5_read 15 = .ok (.aload_n 1, 1) := by decide +kernel
theorem dX5_read_16 : decode cX5_read 16 = .ok (.invokevirtual 25, 3) := by decide +kernel
theorem dX5_read_19 : decode cX5_read 19 = .ok (.iconst 1, 1) := by decide +kernel
theorem dX5_read_20 : decode cX5_read 20 = .ok (.istore_n 2, 1) := by decide +kernel
theorem dX5_read_21 : decode cX5_read 21 = .ok (.iconst 0, 1) := by decide +kernel
theorem dX5_read_22 : decode cX5_read 22 = .ok (.istore_n 3, 1) := by decide +kernel
theorem dX5_read_23 : decode cX5_read 23 = .ok (.iload_n 2, 1) := by decide +kernel
theorem dX5_read_24 : decode cX5_read 24 = .ok (.ifCond .eq 22, 3) := by decide +kernel
theorem dX5_read_27 : decode cX5_read 27 = .ok (.iload_n 3, 1) := by decide +kernel
theorem dX5_read_28 : decode cX5_read 28 = .ok (.bipush 12, 2) := by decide +kernel
theorem dX5_read_30 : decode cX5_read 30 = .ok (.if_icmp .gt 16, 3) := by decide +kernel
theorem dX5_read_33 : decode cX5_read 33 = .ok (.aload_n 0, 1) := by decide +kernel
theorem dX5_read_34 : decode cX5_read 34 = .ok (.aload_n 1, 1) := by decide +kernel
theorem dX5_read_35 : decode cX5_read 35 = .ok (.iload_n 3, 1) := by decide +kernel
theorem dX5_read_36 : decode cX5_read 36 = .ok (.invokevirtual 30, 3) := by decide +kernel
theorem dX5_read_39 : decode cX5_read 39 = .ok (.istore_n 2, 1) := by decide +kernel
theorem dX5_read_40 : decode cX5_read 40 = .ok (.iinc 3 1, 3) := by decide +kernel
theorem dX5_read_43 : decode cX5_read 43 = .ok (.goto (-20), 3) := by decide +kernel
theorem dX5_read_46 : decode cX5_read 46 = .ok (.aload_n 0, 1) := by decide +kernel
theorem dX5_read_47 : decode cX5_read 47 = .ok (.getfield 22, 3) := by decide +kernel
theorem dX5_read_50 : decode cX5_read 50 = .ok (.ireturn, 1) := by decide +kernel
set_option maxRecDepth 20000 in
theorem ggX5_readStep_X5_skipBlanks : GoodIn wsX5_readStep wsX5_skipBlanks := goodIn_r _ [8, 1, 9, 10, 11, 12, 13, 14, 15, 16, 17, 18, 19, 20, 118, 119, 120, 121, 122, 123] (by decide +kernel) (by decide +kernel)
set_option maxRecDepth 20000 in
theorem gX5_readStep_X5_skipBlanks : GoodIn wsX5_readStep (wsV RX5 34 RX5 yX5_skipBlanks wsX5_skipBlanks) := goodIn_app (goodIn_of _ (by decide +kernel)) ggX5_readStep_X5_skipBlanks
set_option maxRecDepth 20000 in
theorem ggX5_readStep_X5_takeWord : GoodIn wsX5_readStep wsX5_takeWord := goodIn_r _ [24, 1, 9, 10, 11, 12, 13, 14, 15, 16, 17, 18, 19, 20, 25, 26, 7, 27, 28, 29, 30, 31, 32, 33, 34, 35, 36, 37, 38, 39, 40, 41, 42, 43, 44, 45, 46, 47, 48, 49, 50, 51, 52, 53, 54, 55, 56, 57, 58, 59, 60, 61, 62, 63, 64, 65, 66, 67, 68, 69, 70, 71, 72, 73, 74, 75, 76, 77, 78, 79, 80, 118, 119, 120, 121, 122, 123] (by decide +kernel) (by decide +kernel)
set_option maxRecDepth 20000 in
theorem gX5_readStep_X5_takeWord : GoodIn wsX5_readStep (wsV RX5 37 RX5 yX5_takeWord wsX5_takeWord) := goodIn_app (goodIn_of _ (by decide +kernel)) ggX5_readStep_X5_takeWord
set_option maxRecDepth 20000 in
theorem ggX5_readStep_X5_fail : GoodIn wsX5_readStep wsX5_fail := goodIn_r _ [84, 3, 118, 119, 120, 121] (by decide +kernel) (by decide +kernel)
set_option maxRecDepth 20000 in
theorem gX5_readStep_X5_fail : GoodIn wsX5_readStep (wsV RX5 41 RX5 yX5_fail wsX5_fail) := goodIn_app (goodIn_of _ (by decide +kernel)) ggX5_readStep_X5_fail
set_option maxRecDepth 20000 in
theorem ggX5_readStep_X5_takeNumber : GoodIn wsX5_readStep wsX5_takeNumber := goodIn_r _ [88, 1, 9, 4, 5, 6, 7, 8, 10, 11, 12, 13, 14, 15, 16, 17, 18, 19, 20, 89, 90, 91, 81, 82, 83, 84, 3, 118, 119, 120, 121, 122, 123] (by decide +kernel) (by decide +kernel)
set_option maxRecDepth 20000 in
theorem gX5_readStep_X5_takeNumber : GoodIn wsX5_readStep (wsV RX5 45 RX5 yX5_takeNumber wsX5_takeNumber) := goodIn_app (goodIn_of _ (by decide +kernel)) ggX5_readStep_X5_takeNumber
set_option maxRecDepth 20000 in
theorem ggX5_readStep_X5_takeVotes : GoodIn wsX5_readStep wsX5_takeVotes := goodIn_r _ [95, 1, 2, 4, 5, 6, 7, 8, 9, 10, 11, 12, 13, 14, 15, 16, 17, 18, 19, 20, 21, 22, 23, 24, 25, 26, 27, 28, 29, 30, 31, 32, 33, 34, 35, 36, 37, 38, 39, 40, 41, 42, 43, 44, 45, 46, 47, 48, 49, 50, 51, 52, 53, 54, 55, 56, 57, 58, 59, 60, 61, 62, 63, 64, 65, 66, 67, 68, 69, 70, 71, 72, 73, 74, 75, 76, 77, 78, 79, 80, 81, 82, 83, 84, 3, 85, 86, 87, 88, 89, 90, 91, 118, 119, 120, 121, 122, 123] (by decide +kernel) (by decide +kernel)
set_option maxRecDepth 20000 in
theorem gX5_readStep_X5_takeVotes : GoodIn wsX5_readStep (wsV RX5 49 RX5 yX5_takeVotes wsX5_takeVotes) := goodIn_app (goodIn_of _ (by decide +kernel)) ggX5_readStep_X5_takeVotes
set_option maxRecDepth 20000 in
theorem ggX5_readStep_X5_takeHouseLimit : GoodIn wsX5_readStep wsX5_takeHouseLimit := goodIn_r _ [99, 9, 1, 4, 5, 6, 7, 8, 10, 11, 12, 13, 14, 15, 16, 17, 18, 19, 20, 25, 26, 27, 21, 22, 23, 24, 28, 29, 30, 31, 32, 33, 34, 35, 36, 37, 38, 39, 40, 41, 42, 43, 44, 45, 46, 47, 48, 49, 50, 51, 52, 53, 54, 55, 56, 57, 58, 59, 60, 61, 62, 63, 64, 65, 66, 67, 68, 69, 70, 71, 72, 73, 74, 75, 76, 77, 78, 79, 80, 81, 82, 83, 84, 3, 85, 86, 87, 88, 89, 90, 91, 118, 119, 120, 121, 122, 123] (by decide +kernel) (by decide +kernel)
set_option maxRecDepth 20000 in
theorem gX5_readStep_X5_takeHouseLimit : GoodIn wsX5_readStep (wsV RX5 52 RX5 yX5_takeHouseLimit wsX5_takeHouseLimit) := goodIn_app (goodIn_of _ (by decide +kernel)) ggX5_readStep_X5_takeHouseLimit
set_option maxRecDepth 20000 in
theorem ggX5_readStep_X5_takeEnd : GoodIn wsX5_readStep wsX5_takeEnd := goodIn_r _ [103, 1, 9, 4, 5, 6, 7, 8, 10, 11, 12, 13, 14, 15, 16, 17, 18, 19, 20, 81, 82, 83, 84, 3, 118, 119, 120, 121, 122, 123] (by decide +kernel) (by decide +kernel)
set_option maxRecDepth 20000 in
theorem gX5_readStep_X5_takeEnd : GoodIn wsX5_readStep (wsV RX5 55 RX5 yX5_takeEnd wsX5_takeEnd) := goodIn_app (goodIn_of _ (by decide +kernel)) ggX5_readStep_X5_takeEnd
set_option maxRecDepth 20000 in
theorem ggX5_readStep_X5_takeSemicolon : GoodIn wsX5_readStep wsX5_takeSemicolon := goodIn_r _ [107, 9, 1, 4, 5, 6, 7, 8, 10, 11, 12, 13, 14, 15, 16, 17, 18, 19, 20, 81, 82, 83, 84, 3, 118, 119, 120, 121, 122, 123] (by decide +kernel) (by decide +kernel)
set_option maxRecDepth 20000 in
theorem gX5_readStep_X5_takeSemicolon : GoodIn wsX5_readStep (wsV RX5 59 RX5 yX5_takeSemicolon wsX5_takeSemicolon) := goodIn_app (goodIn_of _ (by decide +kernel)) ggX5_readStep_X5_takeSemicolon
set_option maxRecDepth 20000 in
theorem ggX5_readStep_X3_add : GoodIn wsX5_readStep wsX3_add := goodIn_r _ [112, 113, 114, 115, 116, 117, 124, 125, 126, 127, 128] (by decide +kernel) (by decide +kernel)
set_option maxRecDepth 20000 in
theorem gX5_readStep_X3_add : GoodIn wsX5_readStep (wsV RX5 62 RX3 yX3_add wsX3_add) := goodIn_app (goodIn_of _ (by decide +kernel)) ggX5_readStep_X3_add
theorem dX5_readStep_0 : decode cX5_readStep 0 = .ok (.aload_n 0, 1) := by decide +kernel
theorem dX5_readStep_1 : decode cX5_readStep 1 = .ok (.invokevirtual 34, 3) := by decide +kernel
theorem dX5_readStep_4 : decode cX5_readStep 4 = .ok (.aload_n 0, 1) := by decide +kernel
theorem dX5_readStep_5 : decode cX5_readStep 5 = .ok (.getfield 15, 3) := by decide +kernel
theorem dX5_readStep_8 : decode cX5_readStep 8 = .ok (.istore_n 3, 1) := by decide +kernel
theorem dX5_readStep_9 : decode cX5_readStep 9 = .ok (.aload_n 0, 1) := by decide +kernel
theorem dX5_readStep_10 : decode cX5_readStep 10 = .ok (.invokevirtual 37, 3) := by decide +kernel
theorem dX5_readStep_13 : decode cX5_readStep 13 = .ok (.istore 4, 2) := by decide +kernel
theorem dX5_readStep_15 : decode cX5_readStep 15 = .ok (.iload 4, 2) := by decide +kernel
theorem dX5_readStep_17 : decode cX5_readStep 17 = .ok (.iconst 1, 1) := by decide +kernel
theorem dX5_readStep_18 : decode cX5_readStep 18 = .ok (.if_icmp .eq 19, 3) := by decide +kernel
theorem dX5_readStep_21 : decode cX5_readStep 21 = .ok (.iload_n 2, 1) := by decide +kernel
theorem dX5_readStep_22 : decode cX5_readStep 22 = .ok (.ifCond .le 19, 3) := by decide +kernel
theorem dX5_readStep_25 : decode cX5_readStep 25 = .ok (.iload 4, 2) := by decide +kernel
theorem dX5_readStep_27 : decode cX5_readStep 27 = .ok (.iconst 2, 1) := by decide +kernel
theorem dX5_readStep_28 : decode cX5_readStep 28 = .ok (.if_icmp .eq 9, 3) := by decide +kernel
theorem dX5_readStep_31 : decode cX5_readStep 31 = .ok (.iload 4, 2) := by decide +kernel
theorem dX5_readStep_33 : decode cX5_readStep 33 = .ok (.iconst 3, 1) := by decide +kernel
theorem dX5_readStep_34 : decode cX5_readStep 34 = .ok (.if_icmp .ne 7, 3) := by decide +kernel
theorem dX5_readStep_37 : decode cX5_readStep 37 = .ok (.iconst 1, 1) := by decide +kernel
theorem dX5_readStep_38 : decode cX5_readStep 38 = .ok (.goto 4, 3) := by decide +kernel
theorem dX5_readStep_41 : decode cX5_readStep 41 = .ok (.iconst 0, 1) := by decide +kernel
theorem dX5_readStep_42 : decode cX5_readStep 42 = .ok (.istore 5, 2) := by decide +kernel
theorem dX5_readStep_44 : decode cX5_readStep 44 = .ok (.iload 5, 2) := by decide +kernel
theorem dX5_readStep_46 : decode cX5_readStep 46 = .ok (.ifCond .ne 10, 3) := by decide +kernel
theorem dX5_readStep_49 : decode cX5_readStep 49 = .ok (.aload_n 0, 1) := by decide +kernel
theorem dX5_readStep_50 : decode cX5_readStep 50 = .ok (.iload_n 3, 1) := by decide +kernel
theorem dX5_readStep_51 : decode cX5_readStep 51 = .ok (.iconst 0, 1) := by decide +kernel
theorem dX5_readStep_52 : decode cX5_readStep 52 = .ok (.invokevirtual 41, 3) := by decide +kernel
theorem dX5_readStep_55 : decode cX5_readStep 55 = .ok (.ireturn, 1) := by decide +kernel
theorem dX5_readStep_56 : decode cX5_readStep 56 = .ok (.iload_n 2, 1) := by decide +kernel
theorem dX5_readStep_57 : decode cX5_readStep 57 = .ok (.bipush 12, 2) := by decide +kernel
theorem dX5_readStep_59 : decode cX5_readStep 59 = .ok (.if_icmp .lt 10, 3) := by decide +kernel
theorem dX5_readStep_62 : decode cX5_readStep 62 = .ok (.aload_n 0, 1) := by decide +kernel
theorem dX5_readStep_63 : decode cX5_readStep 63 = .ok (.iload_n 3, 1) := by decide +kernel
theorem dX5_readStep_64 : decode cX5_readStep 64 = .ok (.iconst 2, 1) := by decide +kernel
theorem dX5_readStep_65 : decode cX5_readStep 65 = .ok (.invokevirtual 41, 3) := by decide +kernel
theorem dX5_readStep_68 : decode cX5_readStep 68 = .ok (.ireturn, 1) := by decide +kernel
theorem dX5_readStep_69 : decode cX5_readStep 69 = .ok (.iload 4, 2) := by decide +kernel
theorem dX5_readStep_71 : decode cX5_readStep 71 = .ok (.iconst 3, 1) := by decide +kernel
theorem dX5_readStep_72 : decode cX5_readStep 72 = .ok (.if_icmp .ne 7, 3) := by decide +kernel
theorem dX5_readStep_75 : decode cX5_readStep 75 = .ok (.iconst 1, 1) := by decide +kernel
theorem dX5_readStep_76 : decode cX5_readStep 76 = .ok (.goto 28, 3) := by decide +kernel
theorem dX5_readStep_79 : decode cX5_readStep 79 = .ok (.aload_n 0, 1) := by decide +kernel
theorem dX5_readStep_80 : decode cX5_readStep 80 = .ok (.bipush 40, 2) := by decide +kernel
theorem dX5_readStep_82 : decode cX5_readStep 82 = .ok (.iload 4, 2) := by decide +kernel
theorem dX5_readStep_84 : decode cX5_readStep 84 = .ok (.iconst 1, 1) := by decide +kernel
theorem dX5_readStep_85 : decode cX5_readStep 85 = .ok (.if_icmp .ne 14, 3) := by decide +kernel
theorem dX5_readStep_88 : decode cX5_readStep 88 = .ok (.iload_n 2, 1) := by decide +kernel
theorem dX5_readStep_89 : decode cX5_readStep 89 = .ok (.ifCond .le 10, 3) := by decide +kernel
theorem dX5_readStep_92 : decode cX5_readStep 92 = .ok (.aload_n 0, 1) := by decide +kernel
theorem dX5_readStep_93 : decode cX5_readStep 93 = .ok (.getfield 19, 3) := by decide +kernel
theorem dX5_readStep_96 : decode cX5_readStep 96 = .ok (.goto 5, 3) := by decide +kernel
theorem dX5_readStep_99 : decode cX5_readStep 99 = .ok (.bipush 40, 2) := by decide +kernel
theorem dX5_readStep_101 : decode cX5_readStep 101 = .ok (.invokevirtual 45, 3) := by decide +kernel
theorem dX5_readStep_104 : decode cX5_readStep 104 = .ok (.istore 6, 2) := by decide +kernel
theorem dX5_readStep_106 : decode cX5_readStep 106 = .ok (.iload 4, 2) := by decide +kernel
theorem dX5_readStep_108 : decode cX5_readStep 108 = .ok (.iconst 1, 1) := by decide +kernel
theorem dX5_readStep_109 : decode cX5_readStep 109 = .ok (.if_icmp .ne 7, 3) := by decide +kernel
theorem dX5_readStep_112 : decode cX5_readStep 112 = .ok (.iconst 0, 1) := by decide +kernel
theorem dX5_readStep_113 : decode cX5_readStep 113 = .ok (.goto 7, 3) := by decide +kernel
theorem dX5_readStep_116 : decode cX5_readStep 116 = .ok (.aload_n 0, 1) := by decide +kernel
theorem dX5_readStep_117 : decode cX5_readStep 117 = .ok (.invokevirtual 49, 3) := by decide +kernel
theorem dX5_readStep_120 : decode cX5_readStep 120 = .ok (.istore 7, 2) := by decide +kernel
theorem dX5_readStep_122 : decode cX5_readStep 122 = .ok (.iload 4, 2) := by decide +kernel
theorem dX5_readStep_124 : decode cX5_readStep 124 = .ok (.iconst 2, 1) := by decide +kernel
theorem dX5_readStep_125 : decode cX5_readStep 125 = .ok (.if_icmp .ne 10, 3) := by decide +kernel
theorem dX5_readStep_128 : decode cX5_readStep 128 = .ok (.aload_n 0, 1) := by decide +kernel
theorem dX5_readStep_129 : decode cX5_readStep 129 = .ok (.invokevirtual 52, 3) := by decide +kernel
theorem dX5_readStep_132 : decode cX5_readStep 132 = .ok (.goto 4, 3) := by decide +kernel
theorem dX5_readStep_135 : decode cX5_readStep 135 = .ok (.iconst 0, 1) := by decide +kernel
theorem dX5_readStep_136 : decode cX5_readStep 136 = .ok (.istore 8, 2) := by decide +kernel
theorem dX5_readStep_138 : decode cX5_readStep 138 = .ok (.iload 4, 2) := by decide +kernel
theorem dX5_readStep_140 : decode cX5_readStep 140 = .ok (.iconst 3, 1) := by decide +kernel
theorem dX5_readStep_141 : decode cX5_readStep 141 = .ok (.if_icmp .ne 10, 3) := by decide +kernel
theorem dX5_readStep_144 : decode cX5_readStep 144 = .ok (.aload_n 0, 1) := by decide +kernel
theorem dX5_readStep_145 : decode cX5_readStep 145 = .ok (.invokevirtual 55, 3) := by decide +kernel
theorem dX5_readStep_148 : decode cX5_readStep 148 = .ok (.goto 7, 3) := by decide +kernel
theorem dX5_readStep_151 : decode cX5_readStep 151 = .ok (.aload_n 0, 1) := by decide +kernel
theorem dX5_readStep_152 : decode cX5_readStep 152 = .ok (.invokevirtual 59, 3) := by decide +kernel
theorem dX5_readStep_155 : decode cX5_readStep 155 = .ok (.istore 9, 2) := by decide +kernel
theorem dX5_readStep_157 : decode cX5_readStep 157 = .ok (.aload_n 0, 1) := by decide +kernel
theorem dX5_readStep_158 : decode cX5_readStep 158 = .ok (.getfield 22, 3) := by decide +kernel
theorem dX5_readStep_161 : decode cX5_readStep 161 = .ok (.ifCond .eq 5, 3) := by decide +kernel
theorem dX5_readStep_164 : decode cX5_readStep 164 = .ok (.iconst 0, 1) := by decide +kernel
theorem dX5_readStep_165 : decode cX5_readStep 165 = .ok (.ireturn, 1) := by decide +kernel
theorem dX5_readStep_166 : decode cX5_readStep 166 = .ok (.aload_n 1, 1) := by decide +kernel
theorem dX5_readStep_167 : decode cX5_readStep 167 = .ok (.iload 4, 2) := by decide +kernel
theorem dX5_readStep_169 : decode cX5_readStep 169 = .ok (.iload 6, 2) := by decide +kernel
theorem dX5_readStep_171 : decode cX5_readStep 171 = .ok (.iload 7, 2) := by decide +kernel
theorem dX5_readStep_173 : decode cX5_readStep 173 = .ok (.iload 8, 2) := by decide +kernel
theorem dX5_readStep_175 : decode cX5_readStep 175 = .ok (.invokevirtual 62, 3) := by decide +kernel
theorem dX5_readStep_178 : decode cX5_readStep 178 = .ok (.aload_n 0, 1) := by decide +kernel
theorem dX5_readStep_179 : decode cX5_readStep 179 = .ok (.iload 6, 2) := by decide +kernel
theorem dX5_readStep_181 : decode cX5_readStep 181 = .ok (.putfield 19, 3) := by decide +kernel
theorem dX5_readStep_184 : decode cX5_readStep 184 = .ok (.iload 9, 2) := by decide +kernel
theorem dX5_readStep_186 : decode cX5_readStep 186 = .ok (.ireturn, 1) := by decide +kernel
set_option maxRecDepth 20000 in
theorem ggX5_takeVotes_X5_skipBlanks : GoodIn wsX5_takeVotes wsX5_skipBlanks := goodIn_r _ [7, 1, 8, 9, 10, 11, 12, 13, 14, 15, 16, 17, 18, 19, 92, 93, 94, 95, 96, 97] (by decide +kernel) (by decide +kernel)
set_option maxRecDepth 20000 in
theorem gX5_takeVotes_X5_skipBlanks : GoodIn wsX5_takeVotes (wsV RX5 34 RX5 yX5_skipBlanks wsX5_skipBlanks) := goodIn_app (goodIn_of _ (by decide +kernel)) ggX5_takeVotes_X5_skipBlanks
set_option maxRecDepth 20000 in
theorem ggX5_takeVotes_X5_takeWord : GoodIn wsX5_takeVotes wsX5_takeWord := goodIn_r _ [23, 1, 8, 9, 10, 11, 12, 13, 14, 15, 16, 17, 18, 19, 24, 25, 6, 26, 27, 28, 29, 30, 31, 32, 33, 34, 35, 36, 37, 38, 39, 40, 41, 42, 43, 44, 45, 46, 47, 48, 49, 50, 51, 52, 53, 54, 55, 56, 57, 58, 59, 60, 61, 62, 63, 64, 65, 66, 67, 68, 69, 70, 71, 72, 73, 74, 75, 76, 77, 78, 79, 92, 93, 94, 95, 96, 97] (by decide +kernel) (by decide +kernel)
set_option maxRecDepth 20000 in
theorem gX5_takeVotes_X5_takeWord : GoodIn wsX5_takeVotes (wsV RX5 37 RX5 yX5_takeWord wsX5_takeWord) := goodIn_app (goodIn_of _ (by decide +kernel)) ggX5_takeVotes_X5_takeWord
set_option maxRecDepth 20000 in
theorem ggX5_takeVotes_X5_fail : GoodIn wsX5_takeVotes wsX5_fail := goodIn_r _ [83, 84, 92, 93, 94, 95] (by decide +kernel) (by decide +kernel)
set_option maxRecDepth 20000 in
theorem gX5_takeVotes_X5_fail : GoodIn wsX5_takeVotes (wsV RX5 41 RX5 yX5_fail wsX5_fail) := goodIn_app (goodIn_of _ (by decide +kernel)) ggX5_takeVotes_X5_fail
set_option maxRecDepth 20000 in
theorem ggX5_takeVotes_X5_takeNumber : GoodIn wsX5_takeVotes wsX5_takeNumber := goodIn_r _ [88, 1, 8, 3, 4, 5, 6, 7, 9, 10, 11, 12, 13, 14, 15, 16, 17, 18, 19, 89, 90, 91, 80, 81, 82, 83, 84, 92, 93, 94, 95, 96, 97] (by decide +kernel) (by decide +kernel)
set_option maxRecDepth 20000 in
theorem gX5_takeVotes_X5_takeNumber : GoodIn wsX5_takeVotes (wsV RX5 45 RX5 yX5_takeNumber wsX5_takeNumber) := goodIn_app (goodIn_of _ (by decide +kernel)) ggX5_takeVotes_X5_takeNumber
