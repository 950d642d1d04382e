theorem dX2_countAllWays_24 : decode cX2_countAllWays 24 = .ok (.aload_n 1, 1) := by decide +kernel
theorem dX2_countAllWays_25 : decode cX2_countAllWays 25 = .ok (.iload 6, 2) := by decide +kernel
theorem dX2_countAllWays_27 : decode cX2_countAllWays 27 = .ok (.iload 5, 2) := by decide +kernel
theorem dX2_countAllWays_29 : decode cX2_countAllWays 29 = .ok (.invokevirtual 110, 3) := by decide +kernel
theorem dX2_countAllWays_32 : decode cX2_countAllWays 32 = .ok (.lstore 7, 2) := by decide +kernel
theorem dX2_countAllWays_34 : decode cX2_countAllWays 34 = .ok (.lload_n 3, 1) := by decide +kernel
theorem dX2_countAllWays_35 : decode cX2_countAllWays 35 = .ok (.lconst 1, 1) := by decide +kernel
theorem dX2_countAllWays_36 : decode cX2_countAllWays 36 = .ok (.lcmp, 1) := by decide +kernel
theorem dX2_countAllWays_37 : decode cX2_countAllWays 37 = .ok (.ifCond .lt 14, 3) := by decide +kernel
theorem dX2_countAllWays_40 : decode cX2_countAllWays 40 = .ok (.lload 7, 2) := by decide +kernel
theorem dX2_countAllWays_42 : decode cX2_countAllWays 42 = .ok (.ldc2_w 114, 3) := by decide +kernel
theorem dX2_countAllWays_45 : decode cX2_countAllWays 45 = .ok (.lload_n 3, 1) := by decide +kernel
theorem dX2_countAllWays_46 : decode cX2_countAllWays 46 = .ok (.ldiv, 1) := by decide +kernel
theorem dX2_countAllWays_47 : decode cX2_countAllWays 47 = .ok (.lcmp, 1) := by decide +kernel
theorem dX2_countAllWays_48 : decode cX2_countAllWays 48 = .ok (.ifCond .le 5, 3) := by decide +kernel
theorem dX2_countAllWays_51 : decode cX2_countAllWays 51 = .ok (.iconst 0, 1) := by decide +kernel
theorem dX2_countAllWays_52 : decode cX2_countAllWays 52 = .ok (.ireturn, 1) := by decide +kernel
theorem dX2_countAllWays_53 : decode cX2_countAllWays 53 = .ok (.lload_n 3, 1) := by decide +kernel
theorem dX2_countAllWays_54 : decode cX2_countAllWays 54 = .ok (.lload 7, 2) := by decide +kernel
theorem dX2_countAllWays_56 : decode cX2_countAllWays 56 = .ok (.lmul, 1) := by decide +kernel
theorem dX2_countAllWays_57 : decode cX2_countAllWays 57 = .ok (.lstore_n 3, 1) := by decide +kernel
theorem dX2_countAllWays_58 : decode cX2_countAllWays 58 = .ok (.aload_n 1, 1) := by decide +kernel
theorem dX2_countAllWays_59 : decode cX2_countAllWays 59 = .ok (.iload 6, 2) := by decide +kernel
theorem dX2_countAllWays_61 : decode cX2_countAllWays 61 = .ok (.invokevirtual 106, 3) := by decide +kernel
theorem dX2_countAllWays_64 : decode cX2_countAllWays 64 = .ok (.istore 5, 2) := by decide +kernel
theorem dX2_countAllWays_66 : decode cX2_countAllWays 66 = .ok (.iinc 6 1, 3) := by decide +kernel
theorem dX2_countAllWays_69 : decode cX2_countAllWays 69 = .ok (.goto (-55), 3) := by decide +kernel
theorem dX2_countAllWays_72 : decode cX2_countAllWays 72 = .ok (.aload_n 0, 1) := by decide +kernel
theorem dX2_countAllWays_73 : decode cX2_countAllWays 73 = .ok (.getfield 41, 3) := by decide +kernel
theorem dX2_countAllWays_76 : decode cX2_countAllWays 76 = .ok (.bipush 41, 2) := by decide +kernel
theorem dX2_countAllWays_78 : decode cX2_countAllWays 78 = .ok (.lload_n 3, 1) := by decide +kernel
theorem dX2_countAllWays_79 : decode cX2_countAllWays 79 = .ok (.lastore, 1) := by decide +kernel
theorem dX2_countAllWays_80 : decode cX2_countAllWays 80 = .ok (.lconst 1, 1) := by decide +kernel
theorem dX2_countAllWays_81 : decode cX2_countAllWays 81 = .ok (.lstore 6, 2) := by decide +kernel
theorem dX2_countAllWays_83 : decode cX2_countAllWays 83 = .ok (.aload_n 1, 1) := by decide +kernel
theorem dX2_countAllWays_84 : decode cX2_countAllWays 84 = .ok (.invokevirtual 78, 3) := by decide +kernel
theorem dX2_countAllWays_87 : decode cX2_countAllWays 87 = .ok (.bipush 12, 2) := by decide +kernel
theorem dX2_countAllWays_89 : decode cX2_countAllWays 89 = .ok (.invokestatic 116, 3) := by decide +kernel
theorem dX2_countAllWays_92 : decode cX2_countAllWays 92 = .ok (.iconst 1, 1) := by decide +kernel
theorem dX2_countAllWays_93 : decode cX2_countAllWays 93 = .ok (.isub, 1) := by decide +kernel
theorem dX2_countAllWays_94 : decode cX2_countAllWays 94 = .ok (.istore 8, 2) := by decide +kernel
theorem dX2_countAllWays_96 : decode cX2_countAllWays 96 = .ok (.iload 8, 2) := by decide +kernel
theorem dX2_countAllWays_98 : decode cX2_countAllWays 98 = .ok (.iload_n 2, 1) := by decide +kernel
theorem dX2_countAllWays_99 : decode cX2_countAllWays 99 = .ok (.if_icmp .lt 59, 3) := by decide +kernel
theorem dX2_countAllWays_102 : decode cX2_countAllWays 102 = .ok (.iload 8, 2) := by decide +kernel
theorem dX2_countAllWays_104 : decode cX2_countAllWays 104 = .ok (.ifCond .lt 54, 3) := by decide +kernel
theorem dX2_countAllWays_107 : decode cX2_countAllWays 107 = .ok (.aload_n 0, 1) := by decide +kernel
theorem dX2_countAllWays_108 : decode cX2_countAllWays 108 = .ok (.getfield 15, 3) := by decide +kernel
theorem dX2_countAllWays_111 : decode cX2_countAllWays 111 = .ok (.iload 8, 2) := by decide +kernel
theorem dX2_countAllWays_113 : decode cX2_countAllWays 113 = .ok (.lload 6, 2) := by decide +kernel
theorem dX2_countAllWays_115 : decode cX2_countAllWays 115 = .ok (.lastore, 1) := by decide +kernel
theorem dX2_countAllWays_116 : decode cX2_countAllWays 116 = .ok (.lload 6, 2) := by decide +kernel
theorem dX2_countAllWays_118 : decode cX2_countAllWays 118 = .ok (.aload_n 0, 1) := by decide +kernel
theorem dX2_countAllWays_119 : decode cX2_countAllWays 119 = .ok (.aload_n 1, 1) := by decide +kernel
theorem dX2_countAllWays_120 : decode cX2_countAllWays 120 = .ok (.iload 8, 2) := by decide +kernel
theorem dX2_countAllWays_122 : decode cX2_countAllWays 122 = .ok (.iload 8, 2) := by decide +kernel
theorem dX2_countAllWays_124 : decode cX2_countAllWays 124 = .ok (.iload_n 2, 1) := by decide +kernel
theorem dX2_countAllWays_125 : decode cX2_countAllWays 125 = .ok (.if_icmp .le 14, 3) := by decide +kernel
theorem dX2_countAllWays_128 : decode cX2_countAllWays 128 = .ok (.aload_n 1, 1) := by decide +kernel
theorem dX2_countAllWays_129 : decode cX2_countAllWays 129 = .ok (.iload 8, 2) := by decide +kernel
theorem dX2_countAllWays_131 : decode cX2_countAllWays 131 = .ok (.iconst 1, 1) := by decide +kernel
theorem dX2_countAllWays_132 : decode cX2_countAllWays 132 = .ok (.isub, 1) := by decide +kernel
theorem dX2_countAllWays_133 : decode cX2_countAllWays 133 = .ok (.invokevirtual 106, 3) := by decide +kernel
theorem dX2_countAllWays_136 : decode cX2_countAllWays 136 = .ok (.goto 10, 3) := by decide +kernel
theorem dX2_countAllWays_139 : decode cX2_countAllWays 139 = .ok (.aload_n 0, 1) := by decide +kernel
theorem dX2_countAllWays_140 : decode cX2_countAllWays 140 = .ok (.getfield 58, 3) := by decide +kernel
theorem dX2_countAllWays_143 : decode cX2_countAllWays 143 = .ok (.invokevirtual 99, 3) := by decide +kernel
theorem dX2_countAllWays_146 : decode cX2_countAllWays 146 = .ok (.invokevirtual 110, 3) := by decide +kernel
theorem dX2_countAllWays_149 : decode cX2_countAllWays 149 = .ok (.lmul, 1) := by decide +kernel
theorem dX2_countAllWays_150 : decode cX2_countAllWays 150 = .ok (.lstore 6, 2) := by decide +kernel
theorem dX2_countAllWays_152 : decode cX2_countAllWays 152 = .ok (.iinc 8 (-1), 3) := by decide +kernel
theorem dX2_countAllWays_155 : decode cX2_countAllWays 155 = .ok (.goto (-59), 3) := by decide +kernel
theorem dX2_countAllWays_158 : decode cX2_countAllWays 158 = .ok (.iconst 1, 1) := by decide +kernel
theorem dX2_countAllWays_159 : decode cX2_countAllWays 159 = .ok (.ireturn, 1) := by decide +kernel
set_option maxRecDepth 20000 in
theorem ggX2_setsOfStep_X3_kindOf : GoodIn wsX2_setsOfStep wsX3_kindOf := goodIn_r _ [5, 6, 7, 8, 9, 4, 10, 11, 23, 24, 25, 26, 27] (by decide +kernel) (by decide +kernel)
set_option maxRecDepth 20000 in
theorem gX2_setsOfStep_X3_kindOf : GoodIn wsX2_setsOfStep (wsV RX2 122 RX3 yX3_kindOf wsX3_kindOf) := goodIn_app (goodIn_of _ (by decide +kernel)) ggX2_setsOfStep_X3_kindOf
set_option maxRecDepth 20000 in
theorem ggX2_setsOfStep_X3_sizeOf : GoodIn wsX2_setsOfStep wsX3_sizeOf := goodIn_r _ [15, 16, 7, 8, 9, 4, 10, 11, 23, 24, 25, 26, 27] (by decide +kernel) (by decide +kernel)
set_option maxRecDepth 20000 in
theorem gX2_setsOfStep_X3_sizeOf : GoodIn wsX2_setsOfStep (wsV RX2 106 RX3 yX3_sizeOf wsX3_sizeOf) := goodIn_app (goodIn_of _ (by decide +kernel)) ggX2_setsOfStep_X3_sizeOf
set_option maxRecDepth 20000 in
theorem ggX2_setsOfStep_X2_setsOf : GoodIn wsX2_setsOfStep wsX2_setsOf := goodIn_r _ [21, 22, 28, 29, 30, 31, 32, 33, 34, 35, 36, 37, 38, 39, 40, 41, 42, 43] (by decide +kernel) (by decide +kernel)
set_option maxRecDepth 20000 in
theorem gX2_setsOfStep_X2_setsOf : GoodIn wsX2_setsOfStep (wsV RX2 125 RX2 yX2_setsOf wsX2_setsOf) := goodIn_app (goodIn_of _ (by decide +kernel)) ggX2_setsOfStep_X2_setsOf
theorem dX2_setsOfStep_0 : decode cX2_setsOfStep 0 = .ok (.aload_n 1, 1) := by decide +kernel
theorem dX2_setsOfStep_1 : decode cX2_setsOfStep 1 = .ok (.iload_n 2, 1) := by decide +kernel
theorem dX2_setsOfStep_2 : decode cX2_setsOfStep 2 = .ok (.invokevirtual 122, 3) := by decide +kernel
theorem dX2_setsOfStep_5 : decode cX2_setsOfStep 5 = .ok (.iconst 1, 1) := by decide +kernel
theorem dX2_setsOfStep_6 : decode cX2_setsOfStep 6 = .ok (.if_icmp .ne 16, 3) := by decide +kernel
theorem dX2_setsOfStep_9 : decode cX2_setsOfStep 9 = .ok (.aload_n 1, 1) := by decide +kernel
theorem dX2_setsOfStep_10 : decode cX2_setsOfStep 10 = .ok (.iload_n 2, 1) := by decide +kernel
theorem dX2_setsOfStep_11 : decode cX2_setsOfStep 11 = .ok (.invokevirtual 106, 3) := by decide +kernel
theorem dX2_setsOfStep_14 : decode cX2_setsOfStep 14 = .ok (.iload_n 3, 1) := by decide +kernel
theorem dX2_setsOfStep_15 : decode cX2_setsOfStep 15 = .ok (.if_icmp .gt 7, 3) := by decide +kernel
theorem dX2_setsOfStep_18 : decode cX2_setsOfStep 18 = .ok (.iconst 1, 1) := by decide +kernel
theorem dX2_setsOfStep_19 : decode cX2_setsOfStep 19 = .ok (.goto 4, 3) := by decide +kernel
theorem dX2_setsOfStep_22 : decode cX2_setsOfStep 22 = .ok (.iconst 0, 1) := by decide +kernel
theorem dX2_setsOfStep_23 : decode cX2_setsOfStep 23 = .ok (.istore 4, 2) := by decide +kernel
theorem dX2_setsOfStep_25 : decode cX2_setsOfStep 25 = .ok (.iload 4, 2) := by decide +kernel
theorem dX2_setsOfStep_27 : decode cX2_setsOfStep 27 = .ok (.ifCond .eq 16, 3) := by decide +kernel
theorem dX2_setsOfStep_30 : decode cX2_setsOfStep 30 = .ok (.aload_n 0, 1) := by decide +kernel
theorem dX2_setsOfStep_31 : decode cX2_setsOfStep 31 = .ok (.iload_n 3, 1) := by decide +kernel
theorem dX2_setsOfStep_32 : decode cX2_setsOfStep 32 = .ok (.aload_n 1, 1) := by decide +kernel
theorem dX2_setsOfStep_33 : decode cX2_setsOfStep 33 = .ok (.iload_n 2, 1) := by decide +kernel
theorem dX2_setsOfStep_34 : decode cX2_setsOfStep 34 = .ok (.invokevirtual 106, 3) := by decide +kernel
theorem dX2_setsOfStep_37 : decode cX2_setsOfStep 37 = .ok (.invokevirtual 125, 3) := by decide +kernel
theorem dX2_setsOfStep_40 : decode cX2_setsOfStep 40 = .ok (.goto 4, 3) := by decide +kernel
theorem dX2_setsOfStep_43 : decode cX2_setsOfStep 43 = .ok (.lconst 1, 1) := by decide +kernel
theorem dX2_setsOfStep_44 : decode cX2_setsOfStep 44 = .ok (.lreturn, 1) := by decide +kernel
theorem dX2_setsOf_0 : decode cX2_setsOf 0 = .ok (.iload_n 1, 1) := by decide +kernel
theorem dX2_setsOf_1 : decode cX2_setsOf 1 = .ok (.ifCond .lt 32, 3) := by decide +kernel
theorem dX2_setsOf_4 : decode cX2_setsOf 4 = .ok (.iload_n 1, 1) := by decide +kernel
theorem dX2_setsOf_5 : decode cX2_setsOf 5 = .ok (.bipush 41, 2) := by decide +kernel
theorem dX2_setsOf_7 : decode cX2_setsOf 7 = .ok (.if_icmp .ge 26, 3) := by decide +kernel
theorem dX2_setsOf_10 : decode cX2_setsOf 10 = .ok (.iload_n 2, 1) := by decide +kernel
theorem dX2_setsOf_11 : decode cX2_setsOf 11 = .ok (.ifCond .lt 22, 3) := by decide +kernel
theorem dX2_setsOf_14 : decode cX2_setsOf 14 = .ok (.iload_n 2, 1) := by decide +kernel
theorem dX2_setsOf_15 : decode cX2_setsOf 15 = .ok (.iload_n 1, 1) := by decide +kernel
theorem dX2_setsOf_16 : decode cX2_setsOf 16 = .ok (.if_icmp .gt 17, 3) := by decide +kernel
theorem dX2_setsOf_19 : decode cX2_setsOf 19 = .ok (.aload_n 0, 1) := by decide +kernel
theorem dX2_setsOf_20 : decode cX2_setsOf 20 = .ok (.getfield 9, 3) := by decide +kernel
theorem dX2_setsOf_23 : decode cX2_setsOf 23 = .ok (.iload_n 1, 1) := by decide +kernel
theorem dX2_setsOf_24 : decode cX2_setsOf 24 = .ok (.bipush 41, 2) := by decide +kernel
theorem dX2_setsOf_26 : decode cX2_setsOf 26 = .ok (.imul, 1) := by decide +kernel
theorem dX2_setsOf_27 : decode cX2_setsOf 27 = .ok (.iload_n 2, 1) := by decide +kernel
theorem dX2_setsOf_28 : decode cX2_setsOf 28 = .ok (.iadd, 1) := by decide +kernel
theorem dX2_setsOf_29 : decode cX2_setsOf 29 = .ok (.laload, 1) := by decide +kernel
theorem dX2_setsOf_30 : decode cX2_setsOf 30 = .ok (.goto 4, 3) := by decide +kernel
theorem dX2_setsOf_33 : decode cX2_setsOf 33 = .ok (.lconst 0, 1) := by decide +kernel
theorem dX2_setsOf_34 : decode cX2_setsOf 34 = .ok (.lreturn, 1) := by decide +kernel
set_option maxRecDepth 20000 in
theorem ggX2_lookAtCity_X0_saysYes : GoodIn wsX2_lookAtCity wsX0_saysYes := goodIn_r _ [10, 11, 12, 13, 9, 14, 50, 51, 52, 53, 54, 55, 56] (by decide +kernel) (by decide +kernel)
set_option maxRecDepth 20000 in
theorem gX2_lookAtCity_X0_saysYes : GoodIn wsX2_lookAtCity (wsV RX2 129 RX0 yX0_saysYes wsX0_saysYes) := goodIn_app (goodIn_of _ (by decide +kernel)) ggX2_lookAtCity_X0_saysYes
set_option maxRecDepth 20000 in
theorem ggX2_lookAtCity_X0_size : GoodIn wsX2_lookAtCity wsX0_size := goodIn_r _ [18, 19, 50, 51, 52, 53, 54, 55, 56] (by decide +kernel) (by decide +kernel)
set_option maxRecDepth 20000 in
theorem gX2_lookAtCity_X0_size : GoodIn wsX2_lookAtCity (wsV RX2 139 RX0 yX0_size wsX0_size) := goodIn_app (goodIn_of _ (by decide +kernel)) ggX2_lookAtCity_X0_size
set_option maxRecDepth 20000 in
theorem ggX2_lookAtCity_X0_isThere : GoodIn wsX2_lookAtCity wsX0_isThere := goodIn_r _ [23, 24, 25, 26, 27, 9, 28, 19, 50, 51, 52, 53, 54, 55, 56] (by decide +kernel) (by decide +kernel)
set_option maxRecDepth 20000 in
theorem gX2_lookAtCity_X0_isThere : GoodIn wsX2_lookAtCity (wsV RX2 142 RX0 yX0_isThere wsX0_isThere) := goodIn_app (goodIn_of _ (by decide +kernel)) ggX2_lookAtCity_X0_isThere
set_option maxRecDepth 20000 in
theorem ggX2_lookAtCity_X0_partyOf : GoodIn wsX2_lookAtCity wsX0_partyOf := goodIn_r _ [32, 33, 25, 26, 27, 9, 28, 19, 50, 51, 52, 53, 54, 55, 56] (by decide +kernel) (by decide +kernel)
set_option maxRecDepth 20000 in
theorem gX2_lookAtCity_X0_partyOf : GoodIn wsX2_lookAtCity (wsV RX2 146 RX0 yX0_partyOf wsX0_partyOf) := goodIn_app (goodIn_of _ (by decide +kernel)) ggX2_lookAtCity_X0_partyOf
theorem dX2_lookAtCity_0 : decode cX2_lookAtCity 0 = .ok (.iconst 0, 1) := by decide +kernel
theorem dX2_lookAtCity_1 : decode cX2_lookAtCity 1 = .ok (.istore_n 1, 1) := by decide +kernel
theorem dX2_lookAtCity_2 : decode cX2_lookAtCity 2 = .ok (.iload_n 1, 1) := by decide +kernel
theorem dX2_lookAtCity_3 : decode cX2_lookAtCity 3 = .ok (.bipush 16, 2) := by decide +kernel
theorem dX2_lookAtCity_5 : decode cX2_lookAtCity 5 = .ok (.if_icmp .ge 36, 3) := by decide +kernel
theorem dX2_lookAtCity_8 : decode cX2_lookAtCity 8 = .ok (.aload_n 0, 1) := by decide +kernel
theorem dX2_lookAtCity_9 : decode cX2_lookAtCity 9 = .ok (.getfield 35, 3) := by decide +kernel
theorem dX2_lookAtCity_12 : decode cX2_lookAtCity 12 = .ok (.iload_n 1, 1) := by decide +kernel
theorem dX2_lookAtCity_13 : decode cX2_lookAtCity 13 = .ok (.aload_n 0, 1) := by decide +kernel
theorem dX2_lookAtCity_14 : decode cX2_lookAtCity 14 = .ok (.getfield 54, 3) := by decide +kernel
theorem dX2_lookAtCity_17 : decode cX2_lookAtCity 17 = .ok (.iload_n 1, 1) := by decide +kernel
theorem dX2_lookAtCity_18 : decode cX2_lookAtCity 18 = .ok (.iconst 4, 1) := by decide +kernel
theorem dX2_lookAtCity_19 : decode cX2_lookAtCity 19 = .ok (.idiv, 1) := by decide +kernel
theorem dX2_lookAtCity_20 : decode cX2_lookAtCity 20 = .ok (.iload_n 1, 1) := by decide +kernel
theorem dX2_lookAtCity_21 : decode cX2_lookAtCity 21 = .ok (.iconst 4, 1) := by decide +kernel
theorem dX2_lookAtCity_22 : decode cX2_lookAtCity 22 = .ok (.irem, 1) := by decide +kernel
theorem dX2_lookAtCity_23 : decode cX2_lookAtCity 23 = .ok (.invokevirtual 129, 3) := by decide +kernel
theorem dX2_lookAtCity_26 : decode cX2_lookAtCity 26 = .ok (.ifCond .eq 7, 3) := by decide +kernel
theorem dX2_lookAtCity_29 : decode cX2_lookAtCity 29 = .ok (.iconst 1, 1) := by decide +kernel
theorem dX2_lookAtCity_30 : decode cX2_lookAtCity 30 = .ok (.goto 4, 3) := by decide +kernel
theorem dX2_lookAtCity_33 : decode cX2_lookAtCity 33 = .ok (.iconst 0, 1) := by decide +kernel
theorem dX2_lookAtCity_34 : decode cX2_lookAtCity 34 = .ok (.iastore, 1) := by decide +kernel
theorem dX2_lookAtCity_35 : decode cX2_lookAtCity 35 = .ok (.iinc 1 1, 3) := by decide +kernel
theorem dX2_lookAtCity_38 : decode cX2_lookAtCity 38 = .ok (.goto (-36), 3) := by decide +kernel
theorem dX2_lookAtCity_41 : decode cX2_lookAtCity 41 = .ok (.aload_n 0, 1) := by decide +kernel
theorem dX2_lookAtCity_42 : decode cX2_lookAtCity 42 = .ok (.iconst 0, 1) := by decide +kernel
theorem dX2_lookAtCity_43 : decode cX2_lookAtCity 43 = .ok (.putfield 135, 3) := by decide +kernel
theorem dX2_lookAtCity_46 : decode cX2_lookAtCity 46 = .ok (.iconst 0, 1) := by decide +kernel
theorem dX2_lookAtCity_47 : decode cX2_lookAtCity 47 = .ok (.istore_n 1, 1) := by decide +kernel
theorem dX2_lookAtCity_48 : decode cX2_lookAtCity 48 = .ok (.iload_n 1, 1) := by decide +kernel
theorem dX2_lookAtCity_49 : decode cX2_lookAtCity 49 = .ok (.aload_n 0, 1) := by decide +kernel
theorem dX2_lookAtCity_50 : decode cX2_lookAtCity 50 = .ok (.getfield 54, 3) := by decide +kernel
theorem dX2_lookAtCity_53 : decode cX2_lookAtCity 53 = .ok (.invokevirtual 139, 3) := by decide +kernel
theorem dX2_lookAtCity_56 : decode cX2_lookAtCity 56 = .ok (.if_icmp .ge 66, 3) := by decide +kernel
theorem dX2_lookAtCity_59 : decode cX2_lookAtCity 59 = .ok (.aload_n 0, 1) := by decide +kernel
theorem dX2_lookAtCity_60 : decode cX2_lookAtCity 60 = .ok (.getfield 135, 3) := by decide +kernel
theorem dX2_lookAtCity_63 : decode cX2_lookAtCity 63 = .ok (.bipush 40, 2) := by decide +kernel
theorem dX2_lookAtCity_65 : decode cX2_lookAtCity 65 = .ok (.if_icmp .ge 57, 3) := by decide +kernel
theorem dX2_lookAtCity_68 : decode cX2_lookAtCity 68 = .ok (.aload_n 0, 1) := by decide +kernel
theorem dX2_lookAtCity_69 : decode cX2_lookAtCity 69 = .ok (.getfield 54, 3) := by decide +kernel
theorem dX2_lookAtCity_72 : decode cX2_lookAtCity 72 = .ok (.iload_n 1, 1) := by decide +kernel
theorem dX2_lookAtCity_73 : decode cX2_lookAtCity 73 = .ok (.invokevirtual 142, 3) := by decide +kernel
theorem dX2_lookAtCity_76 : decode cX2_lookAtCity 76 = .ok (.ifCond .eq 40, 3) := by decide +kernel
theorem dX2_lookAtCity_79 : decode cX2_lookAtCity 79 = .ok (.aload_n 0, 1) := by decide +kernel
theorem dX2_lookAtCity_80 : decode cX2_lookAtCity 80 = .ok (.getfield 29, 3) := by decide +kernel
theorem dX2_lookAtCity_83 : decode cX2_lookAtCity 83 = .ok (.aload_n 0, 1) := by decide +kernel
theorem dX2_lookAtCity_84 : decode cX2_lookAtCity 84 = .ok (.getfield 135, 3) := by decide +kernel
theorem dX2_lookAtCity_87 : decode cX2_lookAtCity 87 = .ok (.iload_n 1, 1) := by decide +kernel
theorem dX2_lookAtCity_88 : decode cX2_lookAtCity 88 = .ok (.iastore, 1) := by decide +kernel
theorem dX2_lookAtCity_89 : decode cX2_lookAtCity 89 = .ok (.aload_n 0, 1) := by decide +kernel
theorem dX2_lookAtCity_90 : decode cX2_lookAtCity 90 = .ok (.getfield 32, 3) := by decide +kernel
theorem dX2_lookAtCity_93 : decode cX2_lookAtCity 93 = .ok (.aload_n 0, 1) := by decide +kernel
theorem dX2_lookAtCity_94 : decode cX2_lookAtCity 94 = .ok (.getfield 135, 3) := by decide +kernel
theorem dX2_lookAtCity_97 : decode cX2_lookAtCity 97 = .ok (.aload_n 0, 1) := by decide +kernel
theorem dX2_lookAtCity_98 : decode cX2_lookAtCity 98 = .ok (.getfield 54, 3) := by decide +kernel
theorem dX2_lookAtCity_101 : decode cX2_lookAtCity 101 = .ok (.iload_n 1, 1) := by decide +kernel
theorem dX2_lookAtCity_102 : decode cX2_lookAtCity 102 = .ok (.invokevirtual 146, 3) := by decide +kernel
theorem dX2_lookAtCity_105 : decode cX2_lookAtCity 105 = .ok (.iastore, 1) := by decide +kernel
theorem dX2_lookAtCity_106 : decode cX2_lookAtCity 106 = .ok (.aload_n 0, 1) := by decide +kernel
theorem dX2_lookAtCity_107 : decode cX2_lookAtCity 107 = .ok (.dup, 1) := by decide +kernel
theorem dX2_lookAtCity_108 : decode cX2_lookAtCity 108 = .ok (.getfield 135, 3) := by decide +kernel
theorem dX2_lookAtCity_111 : decode cX2_lookAtCity 111 = .ok (.iconst 1, 1) := by decide +kernel
theorem dX2_lookAtCity_112 : decode cX2_lookAtCity 112 = .ok (.iadd, 1) := by decide +kernel
theorem dX2_lookAtCity_113 : decode cX2_lookAtCity 113 = .ok (.putfield 135, 3) := by decide +kernel
theorem dX2_lookAtCity_116 : decode cX2_lookAtCity 116 = .ok (.iinc 1 1, 3) := by decide +kernel
theorem dX2_lookAtCity_119 : decode cX2_lookAtCity 119 = .ok (.goto (-71), 3) := by decide +kernel
theorem dX2_lookAtCity_122 : decode cX2_lookAtCity 122 = .ok (.return_, 1) := by decide +kernel
set_option maxRecDepth 20000 in
theorem ggX2_startFromBody_J7_fill_53178 : GoodIn wsX2_startFromBody wsJ7_fill_53178 := goodIn_r _ [8] (by decide +kernel) (by decide +kernel)
set_option maxRecDepth 20000 in
theorem gX2_startFromBody_J7_fill_53178 : GoodIn wsX2_startFromBody (va_wsS RX2 149 yJ7_fill_53178 wsJ7_fill_53178) := goodIn_app (goodIn_of _ (by decide +kernel)) ggX2_startFromBody_J7_fill_53178
set_option maxRecDepth 20000 in
theorem ggX2_startFromBody_X6_bodySize : GoodIn wsX2_startFromBody wsX6_bodySize := goodIn_r _ [13, 14, 15, 16, 17, 18, 12, 19, 20, 21, 22, 23, 24, 25, 26, 27, 28, 29, 30, 31, 32, 33, 34, 35, 36, 89, 90, 91, 92, 93, 94, 95, 96, 97, 98, 99, 100, 101, 102, 103, 104, 105] (by decide +kernel) (by decide +kernel)
set_option maxRecDepth 20000 in
theorem gX2_startFromBody_X6_bodySize : GoodIn wsX2_startFromBody (wsV RX2 99 RX6 yX6_bodySize wsX6_bodySize) := goodIn_app (goodIn_of _ (by decide +kernel)) ggX2_startFromBody_X6_bodySize
set_option maxRecDepth 20000 in
theorem ggX2_startFromBody_X6_member : GoodIn wsX2_startFromBody wsX6_member := goodIn_r _ [40, 21, 14, 41, 10, 11, 12, 13, 15, 16, 17, 18, 19, 20, 22, 23, 24, 25, 26, 27, 28, 29, 30, 31, 32, 33, 34, 35, 36, 89, 90, 91, 92, 93, 94, 95, 96, 97, 98, 99, 100, 101, 102, 103, 104, 105] (by decide +kernel) (by decide +kernel)
set_option maxRecDepth 20000 in
theorem gX2_startFromBody_X6_member : GoodIn wsX2_startFromBody (wsV RX2 152 RX6 yX6_member wsX6_member) := goodIn_app (goodIn_of _ (by decide +kernel)) ggX2_startFromBody_X6_member
set_option maxRecDepth 20000 in
theorem ggX2_startFromBody_X0_partyOf : GoodIn wsX2_startFromBody wsX0_partyOf := goodIn_r _ [45, 46, 33, 34, 35, 25, 36, 27, 99, 100, 101, 102, 103, 104, 105] (by decide +kernel) (by decide +kernel)
set_option maxRecDepth 20000 in
theorem gX2_startFromBody_X0_partyOf : GoodIn wsX2_startFromBody (wsV RX2 146 RX0 yX0_partyOf wsX0_partyOf) := goodIn_app (goodIn_of _ (by decide +kernel)) ggX2_startFromBody_X0_partyOf
set_option maxRecDepth 20000 in
theorem ggX2_startFromBody_X2_countParty : GoodIn wsX2_startFromBody wsX2_countParty := goodIn_r _ [51, 1, 52, 53, 25, 54, 73, 74, 75, 76, 77, 78, 79, 80, 81, 82, 83, 84, 85, 86, 87, 88] (by decide +kernel) (by decide +kernel)
set_option maxRecDepth 20000 in
theorem gX2_startFromBody_X2_countParty : GoodIn wsX2_startFromBody (wsV RX2 155 RX2 yX2_countParty wsX2_countParty) := goodIn_app (goodIn_of _ (by decide +kernel)) ggX2_startFromBody_X2_countParty
set_option maxRecDepth 20000 in
theorem ggX2_startFromBody_X7_clear : GoodIn wsX2_startFromBody wsX7_clear := goodIn_r _ [59, 60, 61, 62, 6, 7, 8, 106, 107, 108, 109] (by decide +kernel) (by decide +kernel)
set_option maxRecDepth 20000 in
theorem gX2_startFromBody_X7_clear : GoodIn wsX2_startFromBody (wsV RX2 159 RX7 yX7_clear wsX7_clear) := goodIn_app (goodIn_of _ (by decide +kernel)) ggX2_startFromBody_X7_clear
set_option maxRecDepth 20000 in
theorem ggX2_startFromBody_X2_keyOfGets : GoodIn wsX2_startFromBody wsX2_keyOfGets := goodIn_r _ [66, 1, 73, 74, 75, 76, 77, 78, 79, 80, 81, 82, 83, 84, 85, 86, 87, 88] (by decide +kernel) (by decide +kernel)
set_option maxRecDepth 20000 in
theorem gX2_startFromBody_X2_keyOfGets : GoodIn wsX2_startFromBody (wsV RX2 162 RX2 yX2_keyOfGets wsX2_keyOfGets) := goodIn_app (goodIn_of _ (by decide +kernel)) ggX2_startFromBody_X2_keyOfGets
set_option maxRecDepth 20000 in
theorem ggX2_startFromBody_X7_add : GoodIn wsX2_startFromBody wsX7_add := goodIn_r _ [70, 61, 60, 71, 72, 106, 107, 108, 109] (by decide +kernel) (by decide +kernel)
set_option maxRecDepth 20000 in
theorem gX2_startFromBody_X7_add : GoodIn wsX2_startFromBody (wsV RX2 165 RX7 yX7_add wsX7_add) := goodIn_app (goodIn_of _ (by decide +kernel)) ggX2_startFromBody_X7_add
theorem dX2_startFromBody_0 : decode cX2_startFromBody 0 = .ok (.aload_n 0, 1) := by decide +kernel
theorem dX2_startFromBody_1 : decode cX2_startFromBody 1 = .ok (.getfield 22, 3) := by decide +kernel
theorem dX2_startFromBody_4 : decode cX2_startFromBody 4 = .ok (.iconst 0, 1) := by decide +kernel
theorem dX2_startFromBody_5 : decode cX2_startFromBody 5 = .ok (.invokestatic 149, 3) := by decide +kernel
theorem dX2_startFromBody_8 : decode cX2_startFromBody 8 = .ok (.aload_n 0, 1) := by decide +kernel
theorem dX2_startFromBody_9 : decode cX2_startFromBody 9 = .ok (.getfield 58, 3) := by decide +kernel
theorem dX2_startFromBody_12 : decode cX2_startFromBody 12 = .ok (.invokevirtual 99, 3) := by decide +kernel
theorem dX2_startFromBody_15 : decode cX2_startFromBody 15 = .ok (.istore_n 1, 1) := by decide +kernel
theorem dX2_startFromBody_16 : decode cX2_startFromBody 16 = .ok (.iconst 0, 1) := by decide +kernel
theorem dX2_startFromBody_17 : decode cX2_startFromBody 17 = .ok (.istore_n 2, 1) := by decide +kernel
theorem dX2_startFromBody_18 : decode cX2_startFromBody 18 = .ok (.iload_n 2, 1) := by decide +kernel
theorem dX2_startFromBody_19 : decode cX2_startFromBody 19 = .ok (.iload_n 1, 1) := by decide +kernel
theorem dX2_startFromBody_20 : decode cX2_startFromBody 20 = .ok (.if_icmp .ge 28, 3) := by decide +kernel
theorem dX2_startFromBody_23 : decode cX2_startFromBody 23 = .ok (.aload_n 0, 1) := by decide +kernel
theorem dX2_startFromBody_24 : decode cX2_startFromBody 24 = .ok (.aload_n 0, 1) := by decide +kernel
theorem dX2_startFromBody_25 : decode cX2_startFromBody 25 = .ok (.getfield 54, 3) := by decide +kernel
theorem dX2_startFromBody_28 : decode cX2_startFromBody 28 = .ok (.aload_n 0, 1) := by decide +kernel
theorem dX2_startFromBody_29 : decode cX2_startFromBody 29 = .ok (.getfield 58, 3) := by decide +kernel
theorem dX2_startFromBody_32 : decode cX2_startFromBody 32 = .ok (.iload_n 2, 1) := by decide +kernel
theorem dX2_startFromBody_33 : decode cX2_startFromBody 33 = .ok (.invokevirtual 152, 3) := by decide +kernel
theorem dX2_startFromBody_36 : decode cX2_startFromBody 36 = .ok (.invokevirtual 146, 3) := by decide +kernel
theorem dX2_startFromBody_39 : decode cX2_startFromBody 39 = .ok (.invokevirtual 155, 3) := by decide +kernel
theorem dX2_startFromBody_42 : decode cX2_startFromBody 42 = .ok (.iinc 2 1, 3) := by decide +kernel
theorem dX2_startFromBody_45 : decode cX2_startFromBody 45 = .ok (.goto (-27), 3) := by decide +kernel
theorem dX2_startFromBody_48 : decode cX2_startFromBody 48 = .ok (.aload_n 0, 1) := by decide +kernel
theorem dX2_startFromBody_49 : decode cX2_startFromBody 49 = .ok (.getfield 47, 3) := by decide +kernel
theorem dX2_startFromBody_52 : decode cX2_startFromBody 52 = .ok (.invokevirtual 159, 3) := by decide +kernel
theorem dX2_startFromBody_55 : decode cX2_startFromBody 55 = .ok (.aload_n 0, 1) := by decide +kernel
theorem dX2_startFromBody_56 : decode cX2_startFromBody 56 = .ok (.getfield 47, 3) := by decide +kernel
theorem dX2_startFromBody_59 : decode cX2_startFromBody 59 = .ok (.aload_n 0, 1) := by decide +kernel
theorem dX2_startFromBody_60 : decode cX2_startFromBody 60 = .ok (.invokevirtual 162, 3) := by decide +kernel
theorem dX2_startFromBody_63 : decode cX2_startFromBody 63 = .ok (.lconst 1, 1) := by decide +kernel
theorem dX2_startFromBody_64 : decode cX2_startFromBody 64 = .ok (.invokevirtual 165, 3) := by decide +kernel
theorem dX2_startFromBody_67 : decode cX2_startFromBody 67 = .ok (.pop, 1) := by decide +kernel
theorem dX2_startFromBody_68 : decode cX2_startFromBody 68 = .ok (.return_, 1) := by decide +kernel
set_option maxRecDepth 20000 in
theorem ggX2_countParty_X0_isParty : GoodIn wsX2_countParty wsX0_isParty := goodIn_r _ [5] (by decide +kernel) (by decide +kernel)
set_option maxRecDepth 20000 in
theorem gX2_countParty_X0_isParty : GoodIn wsX2_countParty (va_wsS RX2 169 yX0_isParty wsX0_isParty) := goodIn_app (goodIn_of _ (by decide +kernel)) ggX2_countParty_X0_isParty
theorem dX2_countParty_0 : decode cX2_countParty 0 = .ok (.iload_n 1, 1) := by decide +kernel
theorem dX2_countParty_1 : decode cX2_countParty 1 = .ok (.invokestatic 169, 3) := by decide +kernel
theorem dX2_countParty_4 : decode cX2_countParty 4 = .ok (.ifCond .eq 13, 3) := by decide +kernel
theorem dX2_countParty_7 : decode cX2_countParty 7 = .ok (.aload_n 0, 1) := by decide +kernel
theorem dX2_countParty_8 : decode cX2_countParty 8 = .ok (.getfield 22, 3) := by decide +kernel
theorem dX2_countParty_11 : decode cX2_countParty 11 = .ok (.iload_n 1, 1) := by decide +kernel
theorem dX2_countParty_12 : decode cX2_countParty 12 = .ok (.dup2, 1) := by decide +kernel
theorem dX2_countParty_13 : decode cX2_countParty 13 = .ok (.iaload, 1) := by decide +kernel
theorem dX2_countParty_14 : decode cX2_countParty 14 = .ok (.iconst 1, 1) := by decide +kernel
theorem dX2_countParty_15 : decode cX2_countParty 15 = .ok (.iadd, 1) := by decide +kernel
theorem dX2_countParty_16 : decode cX2_countParty 16 = .ok (.iastore, 1) := by decide +kernel
theorem dX2_countParty_17 : decode cX2_countParty 17 = .ok (.return_, 1) := by decide +kernel
theorem dX2_keyOfGets_0 : decode cX2_keyOfGets 0 = .ok (.aload_n 0, 1) := by decide +kernel
theorem dX2_keyOfGets_1 : decode cX2_keyOfGets 1 = .ok (.getfield 22, 3) := by decide +kernel
theorem dX2_keyOfGets_4 : decode cX2_keyOfGets 4 = .ok (.iconst 0, 1) := by decide +kernel
theorem dX2_keyOfGets_5 : decode cX2_keyOfGets 5 = .ok (.iaload, 1) := by decide +kernel
theorem dX2_keyOfGets_6 : decode cX2_keyOfGets 6 = .ok (.bipush 41, 2) := by decide +kernel
theorem dX2_keyOfGets_8 : decode cX2_keyOfGets 8 = .ok (.imul, 1) := by decide +kernel
theorem dX2_keyOfGets_9 : decode cX2_keyOfGets 9 = .ok (.aload_n 0, 1) := by decide +kernel
theorem dX2_keyOfGets_10 : decode cX2_keyOfGets 10 = .ok (.getfield 22, 3) := by decide +kernel
theorem dX2_keyOfGets_13 : decode cX2_keyOfGets 13 = .ok (.iconst 1, 1) := by decide +kernel
theorem dX2_keyOfGets_14 : decode cX2_keyOfGets 14 = .ok (.iaload, 1) := by decide +kernel
theorem dX2_keyOfGets_15 : decode cX2_keyOfGets 15 = .ok (.iadd, 1) := by decide +kernel
theorem dX2_keyOfGets_16 : decode cX2_keyOfGets 16 = .ok (.bipush 41, 2) := by decide +kernel
theorem dX2_keyOfGets_18 : decode cX2_keyOfGets 18 = .ok (.imul, 1) := by decide +kernel
theorem dX2_keyOfGets_19 : decode cX2_keyOfGets 19 = .ok (.aload_n 0, 1) := by decide +kernel
theorem dX2_keyOfGets_20 : decode cX2_keyOfGets 20 = .ok (.getfield 22, 3) := by decide +kernel
theorem dX2_keyOfGets_23 : decode cX2_keyOfGets 23 = .ok (.iconst 2, 1) := by decide +kernel
theorem dX2_keyOfGets_24 : decode cX2_keyOfGets 24 = .ok (.iaload, 1) := by decide +kernel
theorem dX2_keyOfGets_25 : decode cX2_keyOfGets 25 = .ok (.iadd, 1) := by decide +kernel
theorem dX2_keyOfGets_26 : decode cX2_keyOfGets 26 = .ok (.ireturn, 1) := by decide +kernel
theorem dX2_spreadKey_0 : decode cX2_spreadKey 0 = .ok (.aload_n 0, 1) := by decide +kernel
theorem dX2_spreadKey_1 : decode cX2_spreadKey 1 = .ok (.getfield 18, 3) := by decide +kernel
theorem dX2_spreadKey_4 : decode cX2_spreadKey 4 = .ok (.iconst 0, 1) := by decide +kernel
theorem dX2_spreadKey_5 : decode cX2_spreadKey 5 = .ok (.iload_n 1, 1) := by decide +kernel
theorem dX2_spreadKey_6 : decode cX2_spreadKey 6 = .ok (.sipush 1681, 3) := by decide +kernel
theorem dX2_spreadKey_9 : decode cX2_spreadKey 9 = .ok (.idiv, 1) := by decide +kernel
theorem dX2_spreadKey_10 : decode cX2_spreadKey 10 = .ok (.iastore, 1) := by decide +kernel
theorem dX2_spreadKey_11 : decode cX2_spreadKey 11 = .ok (.aload_n 0, 1) := by decide +kernel
theorem dX2_spreadKey_12 : decode cX2_spreadKey 12 = .ok (.getfield 18, 3) := by decide +kernel
theorem dX2_spreadKey_15 : decode cX2_spreadKey 15 = .ok (.iconst 1, 1) := by decide +kernel
theorem dX2_spreadKey_16 : decode cX2_spreadKey 16 = .ok (.iload_n 1, 1) := by decide +kernel
theorem dX2_spreadKey_17 : decode cX2_spreadKey 17 = .ok (.bipush 41, 2) := by decide +kernel
theorem dX2_spreadKey_19 : decode cX2_spreadKey 19 = .ok (.idiv, 1) := by decide +kernel
theorem dX2_spreadKey_20 : decode cX2_spreadKey 20 = .ok (.bipush 41, 2) := by decide +kernel
theorem dX2_spreadKey_22 : decode cX2_spreadKey 22 = .ok (.irem, 1) := by decide +kernel
theorem dX2_spreadKey_23 : decode cX2_spreadKey 23 = .ok (.iastore, 1) := by decide +kernel
theorem dX2_spreadKey_24 : decode cX2_spreadKey 24 = .ok (.aload_n 0, 1) := by decide +kernel
theorem dX2_spreadKey_25 : decode cX2_spreadKey 25 = .ok (.getfield 18, 3) := by decide +kernel
theorem dX2_spreadKey_28 : decode cX2_spreadKey 28 = .ok (.iconst 2, 1) := by decide +kernel
theorem dX2_spreadKey_29 : decode cX2_spreadKey 29 = .ok (.iload_n 1, 1) := by decide +kernel
theorem dX2_spreadKey_30 : decode cX2_spreadKey 30 = .ok (.bipush 41, 2) := by decide +kernel
theorem dX2_spreadKey_32 : decode cX2_spreadKey 32 = .ok (.irem, 1) := by decide +kernel
theorem dX2_spreadKey_33 : decode cX2_spreadKey 33 = .ok (.iastore, 1) := by decide +kernel
theorem dX2_spreadKey_34 : decode cX2_spreadKey 34 = .ok (.aload_n 0, 1) := by decide +kernel
theorem dX2_spreadKey_35 : decode cX2_spreadKey 35 = .ok (.getfield 18, 3) := by decide +kernel
theorem dX2_spreadKey_38 : decode cX2_spreadKey 38 = .ok (.iconst 3, 1) := by decide +kernel
theorem dX2_spreadKey_39 : decode cX2_spreadKey 39 = .ok (.iload_n 2, 1) := by decide +kernel
theorem dX2_spreadKey_40 : decode cX2_spreadKey 40 = .ok (.aload_n 0, 1) := by decide +kernel
theorem dX2_spreadKey_41 : decode cX2_spreadKey 41 = .ok (.getfield 18, 3) := by decide +kernel
theorem dX2_spreadKey_44 : decode cX2_spreadKey 44 = .ok (.iconst 0, 1) := by decide +kernel
theorem dX2_spreadKey_45 : decode cX2_spreadKey 45 = .ok (.iaload, 1) := by decide +kernel
theorem dX2_spreadKey_46 : decode cX2_spreadKey 46 = .ok (.isub, 1) := by decide +kernel
theorem dX2_spreadKey_47 : decode cX2_spreadKey 47 = .ok (.aload_n 0, 1) := by decide +kernel
theorem dX2_spreadKey_48 : decode cX2_spreadKey 48 = .ok (.getfield 18, 3) := by decide +kernel
theorem dX2_spreadKey_51 : decode cX2_spreadKey 51 = .ok (.iconst 1, 1) := by decide +kernel
theorem dX2_spreadKey_52 : decode cX2_spreadKey 52 = .ok (.iaload, 1) := by decide +kernel
theorem dX2_spreadKey_53 : decode cX2_spreadKey 53 = .ok (.isub, 1) := by decide +kernel
theorem dX2_spreadKey_54 : decode cX2_spreadKey 54 = .ok (.aload_n 0, 1) := by decide +kernel
theorem dX2_spreadKey_55 : decode cX2_spreadKey 55 = .ok (.getfield 18, 3) := by decide +kernel
theorem dX2_spreadKey_58 : decode cX2_spreadKey 58 = .ok (.iconst 2, 1) := by decide +kernel
theorem dX2_spreadKey_59 : decode cX2_spreadKey 59 = .ok (.iaload, 1) := by decide +kernel
theorem dX2_spreadKey_60 : decode cX2_spreadKey 60 = .ok (.isub, 1) := by decide +kernel
theorem dX2_spreadKey_61 : decode cX2_spreadKey 61 = .ok (.iastore, 1) := by decide +kernel
theorem dX2_spreadKey_62 : decode cX2_spreadKey 62 = .ok (.return_, 1) := by decide +kernel
set_option maxRecDepth 20000 in
theorem ggX2_passStep_X7_clear : GoodIn wsX2_passStep wsX7_clear := goodIn_r _ [7, 8, 9, 10, 11, 12, 13, 128, 129, 130, 131] (by decide +kernel) (by decide +kernel)
set_option maxRecDepth 20000 in
theorem gX2_passStep_X7_clear : GoodIn wsX2_passStep (wsV RX2 159 RX7 yX7_clear wsX7_clear) := goodIn_app (goodIn_of _ (by decide +kernel)) ggX2_passStep_X7_clear
set_option maxRecDepth 20000 in
theorem ggX2_passStep_X7_length : GoodIn wsX2_passStep wsX7_length := goodIn_r _ [17, 8, 128, 129, 130, 131] (by decide +kernel) (by decide +kernel)
set_option maxRecDepth 20000 in
theorem gX2_passStep_X7_length : GoodIn wsX2_passStep (wsV RX2 172 RX7 yX7_length wsX7_length) := goodIn_app (goodIn_of _ (by decide +kernel)) ggX2_passStep_X7_length
set_option maxRecDepth 20000 in
theorem ggX2_passStep_X7_keyAt : GoodIn wsX2_passStep wsX7_keyAt := goodIn_r _ [21, 8, 22, 128, 129, 130, 131] (by decide +kernel) (by decide +kernel)
set_option maxRecDepth 20000 in
theorem gX2_passStep_X7_keyAt : GoodIn wsX2_passStep (wsV RX2 173 RX7 yX7_keyAt wsX7_keyAt) := goodIn_app (goodIn_of _ (by decide +kernel)) ggX2_passStep_X7_keyAt
set_option maxRecDepth 20000 in
theorem ggX2_passStep_X2_spreadKey : GoodIn wsX2_passStep wsX2_spreadKey := goodIn_r _ [27, 28, 112, 113, 114, 115, 116, 117, 118, 119, 120, 121, 122, 123, 124, 125, 126, 127] (by decide +kernel) (by decide +kernel)
set_option maxRecDepth 20000 in
theorem gX2_passStep_X2_spreadKey : GoodIn wsX2_passStep (wsV RX2 176 RX2 yX2_spreadKey wsX2_spreadKey) := goodIn_app (goodIn_of _ (by decide +kernel)) ggX2_passStep_X2_spreadKey
set_option maxRecDepth 20000 in
theorem ggX2_passStep_X7_waysAt : GoodIn wsX2_passStep wsX7_waysAt := goodIn_r _ [32, 8, 33, 128, 129, 130, 131] (by decide +kernel) (by decide +kernel)
set_option maxRecDepth 20000 in
theorem gX2_passStep_X7_waysAt : GoodIn wsX2_passStep (wsV RX2 180 RX7 yX7_waysAt wsX7_waysAt) := goodIn_app (goodIn_of _ (by decide +kernel)) ggX2_passStep_X7_waysAt
set_option maxRecDepth 20000 in
theorem ggX2_passStep_X2_passBody : GoodIn wsX2_passStep wsX2_passBody := goodIn_r _ [37, 38, 1, 39, 40, 41, 42, 43, 44, 45, 46, 47, 48, 49, 50, 51, 52, 53, 54, 55, 56, 57, 26, 58, 28, 59, 60, 61, 62, 63, 64, 65, 66, 67, 68, 69, 70, 71, 72, 73, 74, 75, 76, 77, 78, 79, 80, 81, 82, 6, 83, 9, 8, 22, 33, 84, 85, 86, 87, 88, 89, 90, 91, 92, 93, 94, 95, 96, 97, 98, 99, 100, 101, 102, 103, 104, 105, 106, 107, 11, 12, 13, 108, 109, 110, 111, 112, 113, 114, 115, 116, 117, 118, 119, 120, 121, 122, 123, 124, 125, 126, 127, 132, 133, 134, 135, 136, 128, 129, 130, 131] (by decide +kernel) (by decide +kernel)
set_option maxRecDepth 20000 in
theorem gX2_passStep_X2_passBody : GoodIn wsX2_passStep (wsV RX2 184 RX2 yX2_passBody wsX2_passBody) := goodIn_app (goodIn_of _ (by decide +kernel)) ggX2_passStep_X2_passBody
theorem dX2_passStep_0 : decode cX2_passStep 0 = .ok (.aload_n 0, 1) := by decide +kernel
theorem dX2_passStep_1 : decode cX2_passStep 1 = .ok (.getfield 51, 3) := by decide +kernel
theorem dX2_passStep_4 : decode cX2_passStep 4 = .ok (.invokevirtual 159, 3) := by decide +kernel
theorem dX2_passStep_7 : decode cX2_passStep 7 = .ok (.iconst 0, 1) := by decide +kernel
theorem dX2_passStep_8 : decode cX2_passStep 8 = .ok (.istore 4, 2) := by decide +kernel
theorem dX2_passStep_10 : decode cX2_passStep 10 = .ok (.iload 4, 2) := by decide +kernel
theorem dX2_passStep_12 : decode cX2_passStep 12 = .ok (.aload_n 0, 1) := by decide +kernel
theorem dX2_passStep_13 : decode cX2_passStep 13 = .ok (.getfield 47, 3) := by decide +kernel
theorem dX2_passStep_16 : decode cX2_passStep 16 = .ok (.invokevirtual 172, 3) := by decide +kernel
theorem dX2_passStep_19 : decode cX2_passStep 19 = .ok (.if_icmp .ge 44, 3) := by decide +kernel
theorem dX2_passStep_22 : decode cX2_passStep 22 = .ok (.aload_n 0, 1) := by decide +kernel
theorem dX2_passStep_23 : decode cX2_passStep 23 = .ok (.aload_n 0, 1) := by decide +kernel
theorem dX2_passStep_24 : decode cX2_passStep 24 = .ok (.getfield 47, 3) := by decide +kernel
theorem dX2_passStep_27 : decode cX2_passStep 27 = .ok (.iload 4, 2) := by decide +kernel
theorem dX2_passStep_29 : decode cX2_passStep 29 = .ok (.invokevirtual 173, 3) := by decide +kernel
theorem dX2_passStep_32 : decode cX2_passStep 32 = .ok (.iload_n 3, 1) := by decide +kernel
theorem dX2_passStep_33 : decode cX2_passStep 33 = .ok (.invokevirtual 176, 3) := by decide +kernel
theorem dX2_passStep_36 : decode cX2_passStep 36 = .ok (.aload_n 0, 1) := by decide +kernel
theorem dX2_passStep_37 : decode cX2_passStep 37 = .ok (.aload_n 1, 1) := by decide +kernel
theorem dX2_passStep_38 : decode cX2_passStep 38 = .ok (.iload_n 2, 1) := by decide +kernel
theorem dX2_passStep_39 : decode cX2_passStep 39 = .ok (.iload_n 3, 1) := by decide +kernel
theorem dX2_passStep_40 : decode cX2_passStep 40 = .ok (.aload_n 0, 1) := by decide +kernel
theorem dX2_passStep_41 : decode cX2_passStep 41 = .ok (.getfield 47, 3) := by decide +kernel
theorem dX2_passStep_44 : decode cX2_passStep 44 = .ok (.iload 4, 2) := by decide +kernel
theorem dX2_passStep_46 : decode cX2_passStep 46 = .ok (.invokevirtual 180, 3) := by decide +kernel
theorem dX2_passStep_49 : decode cX2_passStep 49 = .ok (.invokevirtual 184, 3) := by decide +kernel
theorem dX2_passStep_52 : decode cX2_passStep 52 = .ok (.ifCond .ne 5, 3) := by decide +kernel
theorem dX2_passStep_55 : decode cX2_passStep 55 = .ok (.iconst 0, 1) := by decide +kernel
theorem dX2_passStep_56 : decode cX2_passStep 56 = .ok (.ireturn, 1) := by decide +kernel
theorem dX2_passStep_57 : decode cX2_passStep 57 = .ok (.iinc 4 1, 3) := by decide +kernel
theorem dX2_passStep_60 : decode cX2_passStep 60 = .ok (.goto (-50), 3) := by decide +kernel
theorem dX2_passStep_63 : decode cX2_passStep 63 = .ok (.aload_n 0, 1) := by decide +kernel
theorem dX2_passStep_64 : decode cX2_passStep 64 = .ok (.getfield 47, 3) := by decide +kernel
theorem dX2_passStep_67 : decode cX2_passStep 67 = .ok (.astore 4, 2) := by decide +kernel
theorem dX2_passStep_69 : decode cX2_passStep 69 = .ok (.aload_n 0, 1) := by decide +kernel
theorem dX2_passStep_70 : decode cX2_passStep 70 = .ok (.aload_n 0, 1) := by decide +kernel
theorem dX2_passStep_71 : decode cX2_passStep 71 = .ok (.getfield 51, 3) := by decide +kernel
theorem dX2_passStep_74 : decode cX2_passStep 74 = .ok (.putfield 47, 3) := by decide +kernel
theorem dX2_passStep_77 : decode cX2_passStep 77 = .ok (.aload_n 0, 1) := by decide +kernel
theorem dX2_passStep_78 : decode cX2_passStep 78 = .ok (.aload 4, 2) := by decide +kernel
theorem dX2_passStep_80 : decode cX2_passStep 80 = .ok (.putfield 51, 3) := by decide +kernel
theorem dX2_passStep_83 : decode cX2_passStep 83 = .ok (.iconst 1, 1) := by decide +kernel
theorem dX2_passStep_84 : decode cX2_passStep 84 = .ok (.ireturn, 1) := by decide +kernel
set_option maxRecDepth 20000 in
theorem ggX2_passBody_X3_sizeOf : GoodIn wsX2_passBody wsX3_sizeOf := goodIn_r _ [7, 8, 9, 10, 11, 6, 12, 13, 102, 103, 104, 105, 106] (by decide +kernel) (by decide +kernel)
set_option maxRecDepth 20000 in
theorem gX2_passBody_X3_sizeOf : GoodIn wsX2_passBody (wsV RX2 106 RX3 yX3_sizeOf wsX3_sizeOf) := goodIn_app (goodIn_of _ (by decide +kernel)) ggX2_passBody_X3_sizeOf
set_option maxRecDepth 20000 in
theorem ggX2_passBody_X3_kindOf : GoodIn wsX2_passBody wsX3_kindOf := goodIn_r _ [17, 18, 9, 10, 11, 6, 12, 13, 102, 103, 104, 105, 106] (by decide +kernel) (by decide +kernel)
set_option maxRecDepth 20000 in
theorem gX2_passBody_X3_kindOf : GoodIn wsX2_passBody (wsV RX2 122 RX3 yX3_kindOf wsX3_kindOf) := goodIn_app (goodIn_of _ (by decide +kernel)) ggX2_passBody_X3_kindOf
set_option maxRecDepth 20000 in
theorem ggX2_passBody_X2_drawSets : GoodIn wsX2_passBody wsX2_drawSets := goodIn_r _ [23, 24, 25, 26, 27, 28, 29, 30, 31, 32, 33, 34, 35, 22, 36, 37, 38, 39, 40, 41, 2, 42, 43, 44, 45, 46, 47, 48, 49, 50, 51, 52, 53, 54, 86, 87, 88, 89, 90, 91, 92, 93, 94, 95, 96, 97, 98, 99, 100, 101, 107, 108, 109, 110] (by decide +kernel) (by decide +kernel)
set_option maxRecDepth 20000 in
theorem gX2_passBody_X2_drawSets : GoodIn wsX2_passBody (wsV RX2 188 RX2 yX2_drawSets wsX2_drawSets) := goodIn_app (goodIn_of _ (by decide +kernel)) ggX2_passBody_X2_drawSets
set_option maxRecDepth 20000 in
theorem ggX2_passBody_X2_missStep : GoodIn wsX2_passBody wsX2_missStep := goodIn_r _ [58, 1, 59, 86, 87, 88, 89, 90, 91, 92, 93, 94, 95, 96, 97, 98, 99, 100, 101] (by decide +kernel) (by decide +kernel)
set_option maxRecDepth 20000 in
theorem gX2_passBody_X2_missStep : GoodIn wsX2_passBody (wsV RX2 191 RX2 yX2_missStep wsX2_missStep) := goodIn_app (goodIn_of _ (by decide +kernel)) ggX2_passBody_X2_missStep
set_option maxRecDepth 20000 in
theorem ggX2_passBody_X3_votesOf : GoodIn wsX2_passBody wsX3_votesOf := goodIn_r _ [63, 64, 9, 10, 11, 6, 12, 13, 102, 103, 104, 105, 106] (by decide +kernel) (by decide +kernel)
set_option maxRecDepth 20000 in
theorem gX2_passBody_X3_votesOf : GoodIn wsX2_passBody (wsV RX2 195 RX3 yX3_votesOf wsX3_votesOf) := goodIn_app (goodIn_of _ (by decide +kernel)) ggX2_passBody_X3_votesOf
set_option maxRecDepth 20000 in
theorem ggX2_passBody_X2_findEnough : GoodIn wsX2_passBody wsX2_findEnough := goodIn_r _ [68, 69, 24, 70, 86, 87, 88, 89, 90, 91, 92, 93, 94, 95, 96, 97, 98, 99, 100, 101] (by decide +kernel) (by decide +kernel)
set_option maxRecDepth 20000 in
theorem gX2_passBody_X2_findEnough : GoodIn wsX2_passBody (wsV RX2 198 RX2 yX2_findEnough wsX2_findEnough) := goodIn_app (goodIn_of _ (by decide +kernel)) ggX2_passBody_X2_findEnough
set_option maxRecDepth 20000 in
theorem ggX2_passBody_X2_chooseFirst : GoodIn wsX2_passBody wsX2_chooseFirst := goodIn_r _ [74, 32, 75, 76, 70, 77, 78, 79, 80, 81, 82, 83, 84, 85, 86, 87, 88, 89, 90, 91, 92, 93, 94, 95, 96, 97, 98, 99, 100, 101] (by decide +kernel) (by decide +kernel)
set_option maxRecDepth 20000 in
theorem gX2_passBody_X2_chooseFirst : GoodIn wsX2_passBody (wsV RX2 201 RX2 yX2_chooseFirst wsX2_chooseFirst) := goodIn_app (goodIn_of _ (by decide +kernel)) ggX2_passBody_X2_chooseFirst
set_option maxRecDepth 20000 in
theorem ggX2_passBody_X2_keyOfGets : GoodIn wsX2_passBody wsX2_keyOfGets := goodIn_r _ [45, 32, 86, 87, 88, 89, 90, 91, 92, 93, 94, 95, 96, 97, 98, 99, 100, 101] (by decide +kernel) (by decide +kernel)
set_option maxRecDepth 20000 in
theorem gX2_passBody_X2_keyOfGets : GoodIn wsX2_passBody (wsV RX2 162 RX2 yX2_keyOfGets wsX2_keyOfGets) := goodIn_app (goodIn_of _ (by decide +kernel)) ggX2_passBody_X2_keyOfGets
set_option maxRecDepth 20000 in
theorem ggX2_passBody_X7_add : GoodIn wsX2_passBody wsX7_add := goodIn_r _ [50, 51, 52, 53, 54, 107, 108, 109, 110] (by decide +kernel) (by decide +kernel)
set_option maxRecDepth 20000 in
theorem gX2_passBody_X7_add : GoodIn wsX2_passBody (wsV RX2 165 RX7 yX7_add wsX7_add) := goodIn_app (goodIn_of _ (by decide +kernel)) ggX2_passBody_X7_add
theorem dX2_passBody_0 : decode cX2_passBody 0 = .ok (.aload_n 1, 1) := by decide +kernel
theorem dX2_passBody_1 : decode cX2_passBody 1 = .ok (.iload_n 2, 1) := by decide +kernel
theorem dX2_passBody_2 : decode cX2_passBody 2 = .ok (.invokevirtual 106, 3) := by decide +kernel
theorem dX2_passBody_5 : decode cX2_passBody 5 = .ok (.istore 6, 2) := by decide +kernel
theorem dX2_passBody_7 : decode cX2_passBody 7 = .ok (.aload_n 1, 1) := by decide +kernel
theorem dX2_passBody_8 : decode cX2_passBody 8 = .ok (.iload_n 2, 1) := by decide +kernel
theorem dX2_passBody_9 : decode cX2_passBody 9 = .ok (.invokevirtual 122, 3) := by decide +kernel
theorem dX2_passBody_12 : decode cX2_passBody 12 = .ok (.iconst 1, 1) := by decide +kernel
theorem dX2_passBody_13 : decode cX2_passBody 13 = .ok (.if_icmp .ne 27, 3) := by decide +kernel
theorem dX2_passBody_16 : decode cX2_passBody 16 = .ok (.iload 6, 2) := by decide +kernel
theorem dX2_passBody_18 : decode cX2_passBody 18 = .ok (.iload_n 3, 1) := by decide +kernel
theorem dX2_passBody_19 : decode cX2_passBody 19 = .ok (.if_icmp .gt 12, 3) := by decide +kernel
theorem dX2_passBody_22 : decode cX2_passBody 22 = .ok (.aload_n 0, 1) := by decide +kernel
theorem dX2_passBody_23 : decode cX2_passBody 23 = .ok (.iload 6, 2) := by decide +kernel
theorem dX2_passBody_25 : decode cX2_passBody 25 = .ok (.lload 4, 2) := by decide +kernel
theorem dX2_passBody_27 : decode cX2_passBody 27 = .ok (.invokevirtual 188, 3) := by decide +kernel
theorem dX2_passBody_30 : decode cX2_passBody 30 = .ok (.ireturn, 1) := by decide +kernel
theorem dX2_passBody_31 : decode cX2_passBody 31 = .ok (.aload_n 0, 1) := by decide +kernel
theorem dX2_passBody_32 : decode cX2_passBody 32 = .ok (.iload_n 2, 1) := by decide +kernel
theorem dX2_passBody_33 : decode cX2_passBody 33 = .ok (.lload 4, 2) := by decide +kernel
theorem dX2_passBody_35 : decode cX2_passBody 35 = .ok (.invokevirtual 191, 3) := by decide +kernel
theorem dX2_passBody_38 : decode cX2_passBody 38 = .ok (.iconst 1, 1) := by decide +kernel
theorem dX2_passBody_39 : decode cX2_passBody 39 = .ok (.ireturn, 1) := by decide +kernel
theorem dX2_passBody_40 : decode cX2_passBody 40 = .ok (.aload_n 0, 1) := by decide +kernel
theorem dX2_passBody_41 : decode cX2_passBody 41 = .ok (.aload_n 1, 1) := by decide +kernel
theorem dX2_passBody_42 : decode cX2_passBody 42 = .ok (.iload_n 2, 1) := by decide +kernel
theorem dX2_passBody_43 : decode cX2_passBody 43 = .ok (.invokevirtual 195, 3) := by decide +kernel
theorem dX2_passBody_46 : decode cX2_passBody 46 = .ok (.invokevirtual 198, 3) := by decide +kernel
theorem dX2_passBody_49 : decode cX2_passBody 49 = .ok (.aload_n 0, 1) := by decide +kernel
theorem dX2_passBody_50 : decode cX2_passBody 50 = .ok (.iload 6, 2) := by decide +kernel
theorem dX2_passBody_52 : decode cX2_passBody 52 = .ok (.invokevirtual 201, 3) := by decide +kernel
theorem dX2_passBody_55 : decode cX2_passBody 55 = .ok (.istore 7, 2) := by decide +kernel
theorem dX2_passBody_57 : decode cX2_passBody 57 = .ok (.iload 7, 2) := by decide +kernel
theorem dX2_passBody_59 : decode cX2_passBody 59 = .ok (.ifCond .lt 10, 3) := by decide +kernel
theorem dX2_passBody_62 : decode cX2_passBody 62 = .ok (.iload 7, 2) := by decide +kernel
theorem dX2_passBody_64 : decode cX2_passBody 64 = .ok (.bipush 40, 2) := by decide +kernel
theorem dX2_passBody_66 : decode cX2_passBody 66 = .ok (.if_icmp .lt 12, 3) := by decide +kernel
theorem dX2_passBody_69 : decode cX2_passBody 69 = .ok (.aload_n 0, 1) := by decide +kernel
theorem dX2_passBody_70 : decode cX2_passBody 70 = .ok (.iload_n 2, 1) := by decide +kernel
theorem dX2_passBody_71 : decode cX2_passBody 71 = .ok (.lload 4, 2) := by decide +kernel
theorem dX2_passBody_73 : decode cX2_passBody 73 = .ok (.invokevirtual 191, 3) := by decide +kernel
theorem dX2_passBody_76 : decode cX2_passBody 76 = .ok (.iconst 1, 1) := by decide +kernel
theorem dX2_passBody_77 : decode cX2_passBody 77 = .ok (.ireturn, 1) := by decide +kernel
theorem dX2_passBody_78 : decode cX2_passBody 78 = .ok (.aload_n 1, 1) := by decide +kernel
theorem dX2_passBody_79 : decode cX2_passBody 79 = .ok (.iload_n 2, 1) := by decide +kernel
theorem dX2_passBody_80 : decode cX2_passBody 80 = .ok (.invokevirtual 122, 3) := by decide +kernel
theorem dX2_passBody_83 : decode cX2_passBody 83 = .ok (.iconst 3, 1) := by decide +kernel
theorem dX2_passBody_84 : decode cX2_passBody 84 = .ok (.if_icmp .ne 17, 3) := by decide +kernel
theorem dX2_passBody_87 : decode cX2_passBody 87 = .ok (.aload_n 0, 1) := by decide +kernel
theorem dX2_passBody_88 : decode cX2_passBody 88 = .ok (.getfield 41, 3) := by decide +kernel
theorem dX2_passBody_91 : decode cX2_passBody 91 = .ok (.iload 7, 2) := by decide +kernel
theorem dX2_passBody_93 : decode cX2_passBody 93 = .ok (.dup2, 1) := by decide +kernel
theorem dX2_passBody_94 : decode cX2_passBody 94 = .ok (.laload, 1) := by decide +kernel
theorem dX2_passBody_95 : decode cX2_passBody 95 = .ok (.lload 4, 2) := by decide +kernel
theorem dX2_passBody_97 : decode cX2_passBody 97 = .ok (.ladd, 1) := by decide +kernel
theorem dX2_passBody_98 : decode cX2_passBody 98 = .ok (.lastore, 1) := by decide +kernel
theorem dX2_passBody_99 : decode cX2_passBody 99 = .ok (.iconst 1, 1) := by decide +kernel
theorem dX2_passBody_100 : decode cX2_passBody 100 = .ok (.ireturn, 1) := by decide +kernel
theorem dX2_passBody_101 : decode cX2_passBody 101 = .ok (.aload_n 0, 1) := by decide +kernel
theorem dX2_passBody_102 : decode cX2_passBody 102 = .ok (.getfield 51, 3) := by decide +kernel
theorem dX2_passBody_105 : decode cX2_passBody 105 = .ok (.aload_n 0, 1) := by decide +kernel
theorem dX2_passBody_106 : decode cX2_passBody 106 = .ok (.invokevirtual 162, 3) := by decide +kernel
theorem dX2_passBody_109 : decode cX2_passBody 109 = .ok (.lload 4, 2) := by decide +kernel
theorem dX2_passBody_111 : decode cX2_passBody 111 = .ok (.invokevirtual 165, 3) := by decide +kernel
theorem dX2_passBody_114 : decode cX2_passBody 114 = .ok (.ireturn, 1) := by decide +kernel
theorem dX2_missStep_0 : decode cX2_missStep 0 = .ok (.iload_n 1, 1) := by decide +kernel
theorem dX2_missStep_1 : decode cX2_missStep 1 = .ok (.ifCond .lt 27, 3) := by decide +kernel
theorem dX2_missStep_4 : decode cX2_missStep 4 = .ok (.iload_n 1, 1) := by decide +kernel
theorem dX2_missStep_5 : decode cX2_missStep 5 = .ok (.bipush 12, 2) := by decide +kernel
theorem dX2_missStep_7 : decode cX2_missStep 7 = .ok (.if_icmp .ge 21, 3) := by decide +kernel
theorem dX2_missStep_10 : decode cX2_missStep 10 = .ok (.aload_n 0, 1) := by decide +kernel
theorem dX2_missStep_11 : decode cX2_missStep 11 = .ok (.getfield 41, 3) := by decide +kernel
theorem dX2_missStep_14 : decode cX2_missStep 14 = .ok (.bipush 40, 2) := by decide +kernel
theorem dX2_missStep_16 : decode cX2_missStep 16 = .ok (.dup2, 1) := by decide +kernel
theorem dX2_missStep_17 : decode cX2_missStep 17 = .ok (.laload, 1) := by decide +kernel
theorem dX2_missStep_18 : decode cX2_missStep 18 = .ok (.lload_n 2, 1) := by decide +kernel
theorem dX2_missStep_19 : decode cX2_missStep 19 = .ok (.aload_n 0, 1) := by decide +kernel
theorem dX2_missStep_20 : decode cX2_missStep 20 = .ok (.getfield 15, 3) := by decide +kernel
theorem dX2_missStep_23 : decode cX2_missStep 23 = .ok (.iload_n 1, 1) := by decide +kernel
theorem dX2_missStep_24 : decode cX2_missStep 24 = .ok (.laload, 1) := by decide +kernel
theorem dX2_missStep_25 : decode cX2_missStep 25 = .ok (.lmul, 1) := by decide +kernel
theorem dX2_missStep_26 : decode cX2_missStep 26 = .ok (.ladd, 1) := by decide +kernel
theorem dX2_missStep_27 : decode cX2_missStep 27 = .ok (.lastore, 1) := by decide +kernel
theorem dX2_missStep_28 : decode cX2_missStep 28 = .ok (.return_, 1) := by decide +kernel
set_option maxRecDepth 20000 in
theorem ggX2_drawSets_X2_setsOf : GoodIn wsX2_drawSets wsX2_setsOf := goodIn_r _ [14, 15, 34, 35, 36, 37, 38, 39, 40, 41, 42, 43, 44, 45, 46, 47, 48, 49] (by decide +kernel) (by decide +kernel)
set_option maxRecDepth 20000 in
theorem gX2_drawSets_X2_setsOf : GoodIn wsX2_drawSets (wsV RX2 125 RX2 yX2_setsOf wsX2_setsOf) := goodIn_app (goodIn_of _ (by decide +kernel)) ggX2_drawSets_X2_setsOf
set_option maxRecDepth 20000 in
theorem ggX2_drawSets_X2_drawLastTwo : GoodIn wsX2_drawSets wsX2_drawLastTwo := goodIn_r _ [19, 1, 2, 3, 4, 5, 6, 7, 8, 9, 20, 21, 22, 23, 13, 24, 10, 11, 12, 14, 15, 25, 26, 27, 28, 29, 30, 31, 32, 33, 34, 35, 36, 37, 38, 39, 40, 41, 42, 43, 44, 45, 46, 47, 48, 49, 50, 51, 52, 53] (by decide +kernel) (by decide +kernel)
set_option maxRecDepth 20000 in
theorem gX2_drawSets_X2_drawLastTwo : GoodIn wsX2_drawSets (wsV RX2 207 RX2 yX2_drawLastTwo wsX2_drawLastTwo) := goodIn_app (goodIn_of _ (by decide +kernel)) ggX2_drawSets_X2_drawLastTwo
theorem dX2_drawSets_0 : decode cX2_drawSets 0 = .ok (.aload_n 0, 1) := by decide +kernel
theorem dX2_drawSets_1 : decode cX2_drawSets 1 = .ok (.getfield 18, 3) := by decide +kernel
theorem dX2_drawSets_4 : decode cX2_drawSets 4 = .ok (.iconst 2, 1) := by decide +kernel
theorem dX2_drawSets_5 : decode cX2_drawSets 5 = .ok (.iaload, 1) := by decide +kernel
theorem dX2_drawSets_6 : decode cX2_drawSets 6 = .ok (.aload_n 0, 1) := by decide +kernel
theorem dX2_drawSets_7 : decode cX2_drawSets 7 = .ok (.getfield 18, 3) := by decide +kernel
theorem dX2_drawSets_10 : decode cX2_drawSets 10 = .ok (.iconst 3, 1) := by decide +kernel
theorem dX2_drawSets_11 : decode cX2_drawSets 11 = .ok (.iaload, 1) := by decide +kernel
theorem dX2_drawSets_12 : decode cX2_drawSets 12 = .ok (.iadd, 1) := by decide +kernel
theorem dX2_drawSets_13 : decode cX2_drawSets 13 = .ok (.istore 4, 2) := by decide +kernel
theorem dX2_drawSets_15 : decode cX2_drawSets 15 = .ok (.iconst 0, 1) := by decide +kernel
theorem dX2_drawSets_16 : decode cX2_drawSets 16 = .ok (.iload_n 1, 1) := by decide +kernel
theorem dX2_drawSets_17 : decode cX2_drawSets 17 = .ok (.aload_n 0, 1) := by decide +kernel
theorem dX2_drawSets_18 : decode cX2_drawSets 18 = .ok (.getfield 18, 3) := by decide +kernel
theorem dX2_drawSets_21 : decode cX2_drawSets 21 = .ok (.iconst 1, 1) := by decide +kernel
theorem dX2_drawSets_22 : decode cX2_drawSets 22 = .ok (.iaload, 1) := by decide +kernel
theorem dX2_drawSets_23 : decode cX2_drawSets 23 = .ok (.isub, 1) := by decide +kernel
theorem dX2_drawSets_24 : decode cX2_drawSets 24 = .ok (.iload 4, 2) := by decide +kernel
theorem dX2_drawSets_26 : decode cX2_drawSets 26 = .ok (.isub, 1) := by decide +kernel
theorem dX2_drawSets_27 : decode cX2_drawSets 27 = .ok (.invokestatic 204, 3) := by decide +kernel
theorem dX2_drawSets_30 : decode cX2_drawSets 30 = .ok (.istore 5, 2) := by decide +kernel
theorem dX2_drawSets_32 : decode cX2_drawSets 32 = .ok (.iload 5, 2) := by decide +kernel
theorem dX2_drawSets_34 : decode cX2_drawSets 34 = .ok (.aload_n 0, 1) := by decide +kernel
theorem dX2_drawSets_35 : decode cX2_drawSets 35 = .ok (.getfield 18, 3) := by decide +kernel
theorem dX2_drawSets_38 : decode cX2_drawSets 38 = .ok (.iconst 0, 1) := by decide +kernel
theorem dX2_drawSets_39 : decode cX2_drawSets 39 = .ok (.iaload, 1) := by decide +kernel
theorem dX2_drawSets_40 : decode cX2_drawSets 40 = .ok (.iload_n 1, 1) := by decide +kernel
theorem dX2_drawSets_41 : decode cX2_drawSets 41 = .ok (.invokestatic 116, 3) := by decide +kernel
theorem dX2_drawSets_44 : decode cX2_drawSets 44 = .ok (.if_icmp .gt 113, 3) := by decide +kernel
theorem dX2_drawSets_47 : decode cX2_drawSets 47 = .ok (.lload_n 2, 1) := by decide +kernel
theorem dX2_drawSets_48 : decode cX2_drawSets 48 = .ok (.aload_n 0, 1) := by decide +kernel
theorem dX2_drawSets_49 : decode cX2_drawSets 49 = .ok (.aload_n 0, 1) := by decide +kernel
theorem dX2_drawSets_50 : decode cX2_drawSets 50 = .ok (.getfield 18, 3) := by decide +kernel
theorem dX2_drawSets_53 : decode cX2_drawSets 53 = .ok (.iconst 0, 1) := by decide +kernel
theorem dX2_drawSets_54 : decode cX2_drawSets 54 = .ok (.iaload, 1) := by decide +kernel
theorem dX2_drawSets_55 : decode cX2_drawSets 55 = .ok (.iload 5, 2) := by decide +kernel
theorem dX2_drawSets_57 : decode cX2_drawSets 57 = .ok (.invokevirtual 125, 3) := by decide +kernel
theorem dX2_drawSets_60 : decode cX2_drawSets 60 = .ok (.lmul, 1) := by decide +kernel
theorem dX2_drawSets_61 : decode cX2_drawSets 61 = .ok (.lstore 6, 2) := by decide +kernel
theorem dX2_drawSets_63 : decode cX2_drawSets 63 = .ok (.iconst 0, 1) := by decide +kernel
theorem dX2_drawSets_64 : decode cX2_drawSets 64 = .ok (.iload_n 1, 1) := by decide +kernel
theorem dX2_drawSets_65 : decode cX2_drawSets 65 = .ok (.iload 5, 2) := by decide +kernel
theorem dX2_drawSets_67 : decode cX2_drawSets 67 = .ok (.isub, 1) := by decide +kernel
theorem dX2_drawSets_68 : decode cX2_drawSets 68 = .ok (.iload 4, 2) := by decide +kernel
theorem dX2_drawSets_70 : decode cX2_drawSets 70 = .ok (.isub, 1) := by decide +kernel
theorem dX2_drawSets_71 : decode cX2_drawSets 71 = .ok (.invokestatic 204, 3) := by decide +kernel
theorem dX2_drawSets_74 : decode cX2_drawSets 74 = .ok (.istore 8, 2) := by decide +kernel
theorem dX2_drawSets_76 : decode cX2_drawSets 76 = .ok (.iload 8, 2) := by decide +kernel
theorem dX2_drawSets_78 : decode cX2_drawSets 78 = .ok (.aload_n 0, 1) := by decide +kernel
theorem dX2_drawSets_79 : decode cX2_drawSets 79 = .ok (.getfield 18, 3) := by decide +kernel
