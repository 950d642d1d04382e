theorem dX7_add_118 : decode cX7_add 118 = .ok (.aload_n 0, 1) := by decide +kernel
theorem dX7_add_119 : decode cX7_add 119 = .ok (.getfield 15, 3) := by decide +kernel
theorem dX7_add_122 : decode cX7_add 122 = .ok (.aload_n 0, 1) := by decide +kernel
theorem dX7_add_123 : decode cX7_add 123 = .ok (.getfield 22, 3) := by decide +kernel
theorem dX7_add_126 : decode cX7_add 126 = .ok (.lload_n 2, 1) := by decide +kernel
theorem dX7_add_127 : decode cX7_add 127 = .ok (.lastore, 1) := by decide +kernel
theorem dX7_add_128 : decode cX7_add 128 = .ok (.aload_n 0, 1) := by decide +kernel
theorem dX7_add_129 : decode cX7_add 129 = .ok (.dup, 1) := by decide +kernel
theorem dX7_add_130 : decode cX7_add 130 = .ok (.getfield 22, 3) := by decide +kernel
theorem dX7_add_133 : decode cX7_add 133 = .ok (.iconst 1, 1) := by decide +kernel
theorem dX7_add_134 : decode cX7_add 134 = .ok (.iadd, 1) := by decide +kernel
theorem dX7_add_135 : decode cX7_add 135 = .ok (.putfield 22, 3) := by decide +kernel
theorem dX7_add_138 : decode cX7_add 138 = .ok (.aload_n 0, 1) := by decide +kernel
theorem dX7_add_139 : decode cX7_add 139 = .ok (.getfield 19, 3) := by decide +kernel
theorem dX7_add_142 : decode cX7_add 142 = .ok (.iload 4, 2) := by decide +kernel
theorem dX7_add_144 : decode cX7_add 144 = .ok (.aload_n 0, 1) := by decide +kernel
theorem dX7_add_145 : decode cX7_add 145 = .ok (.getfield 22, 3) := by decide +kernel
theorem dX7_add_148 : decode cX7_add 148 = .ok (.iastore, 1) := by decide +kernel
theorem dX7_add_149 : decode cX7_add 149 = .ok (.iconst 1, 1) := by decide +kernel
theorem dX7_add_150 : decode cX7_add 150 = .ok (.ireturn, 1) := by decide +kernel
theorem dX8_init_0 : decode cX8_init 0 = .ok (.aload_n 0, 1) := by decide +kernel
theorem dX8_init_1 : decode cX8_init 1 = .ok (.invokespecial 3, 3) := by decide +kernel
theorem dX8_init_4 : decode cX8_init 4 = .ok (.aload_n 0, 1) := by decide +kernel
theorem dX8_init_5 : decode cX8_init 5 = .ok (.sipush 300, 3) := by decide +kernel
theorem dX8_init_8 : decode cX8_init 8 = .ok (.newarray .int, 2) := by decide +kernel
theorem dX8_init_10 : decode cX8_init 10 = .ok (.putfield 9, 3) := by decide +kernel
theorem dX8_init_13 : decode cX8_init 13 = .ok (.return_, 1) := by decide +kernel
theorem dX8_length_0 : decode cX8_length 0 = .ok (.aload_n 0, 1) := by decide +kernel
theorem dX8_length_1 : decode cX8_length 1 = .ok (.getfield 15, 3) := by decide +kernel
theorem dX8_length_4 : decode cX8_length 4 = .ok (.ireturn, 1) := by decide +kernel
theorem dX8_hasRoom_0 : decode cX8_hasRoom 0 = .ok (.iload_n 1, 1) := by decide +kernel
theorem dX8_hasRoom_1 : decode cX8_hasRoom 1 = .ok (.sipush 300, 3) := by decide +kernel
theorem dX8_hasRoom_4 : decode cX8_hasRoom 4 = .ok (.aload_n 0, 1) := by decide +kernel
theorem dX8_hasRoom_5 : decode cX8_hasRoom 5 = .ok (.getfield 15, 3) := by decide +kernel
theorem dX8_hasRoom_8 : decode cX8_hasRoom 8 = .ok (.isub, 1) := by decide +kernel
theorem dX8_hasRoom_9 : decode cX8_hasRoom 9 = .ok (.if_icmp .gt 7, 3) := by decide +kernel
theorem dX8_hasRoom_12 : decode cX8_hasRoom 12 = .ok (.iconst 1, 1) := by decide +kernel
theorem dX8_hasRoom_13 : decode cX8_hasRoom 13 = .ok (.goto 4, 3) := by decide +kernel
theorem dX8_hasRoom_16 : decode cX8_hasRoom 16 = .ok (.iconst 0, 1) := by decide +kernel
theorem dX8_hasRoom_17 : decode cX8_hasRoom 17 = .ok (.ireturn, 1) := by decide +kernel
set_option maxRecDepth 20000 in
theorem ggX8_append_X8_hasRoom : GoodIn wsX8_append wsX8_hasRoom := goodIn_r _ [7, 2, 8, 9] (by decide +kernel) (by decide +kernel)
set_option maxRecDepth 20000 in
theorem gX8_append_X8_hasRoom : GoodIn wsX8_append (wsV RX8 19 RX8 yX8_hasRoom wsX8_hasRoom) := goodIn_app (goodIn_of _ (by decide +kernel)) ggX8_append_X8_hasRoom
theorem dX8_append_0 : decode cX8_append 0 = .ok (.bipush 24, 2) := by decide +kernel
theorem dX8_append_2 : decode cX8_append 2 = .ok (.istore_n 2, 1) := by decide +kernel
theorem dX8_append_3 : decode cX8_append 3 = .ok (.iload_n 2, 1) := by decide +kernel
theorem dX8_append_4 : decode cX8_append 4 = .ok (.ifCond .lt 43, 3) := by decide +kernel
theorem dX8_append_7 : decode cX8_append 7 = .ok (.aload_n 0, 1) := by decide +kernel
theorem dX8_append_8 : decode cX8_append 8 = .ok (.iconst 1, 1) := by decide +kernel
theorem dX8_append_9 : decode cX8_append 9 = .ok (.invokevirtual 19, 3) := by decide +kernel
theorem dX8_append_12 : decode cX8_append 12 = .ok (.ifCond .eq 29, 3) := by decide +kernel
theorem dX8_append_15 : decode cX8_append 15 = .ok (.aload_n 0, 1) := by decide +kernel
theorem dX8_append_16 : decode cX8_append 16 = .ok (.getfield 9, 3) := by decide +kernel
theorem dX8_append_19 : decode cX8_append 19 = .ok (.aload_n 0, 1) := by decide +kernel
theorem dX8_append_20 : decode cX8_append 20 = .ok (.getfield 15, 3) := by decide +kernel
theorem dX8_append_23 : decode cX8_append 23 = .ok (.iload_n 1, 1) := by decide +kernel
theorem dX8_append_24 : decode cX8_append 24 = .ok (.iload_n 2, 1) := by decide +kernel
theorem dX8_append_25 : decode cX8_append 25 = .ok (.iushr, 1) := by decide +kernel
theorem dX8_append_26 : decode cX8_append 26 = .ok (.sipush 255, 3) := by decide +kernel
theorem dX8_append_29 : decode cX8_append 29 = .ok (.iand, 1) := by decide +kernel
theorem dX8_append_30 : decode cX8_append 30 = .ok (.iastore, 1) := by decide +kernel
theorem dX8_append_31 : decode cX8_append 31 = .ok (.aload_n 0, 1) := by decide +kernel
theorem dX8_append_32 : decode cX8_append 32 = .ok (.dup, 1) := by decide +kernel
theorem dX8_append_33 : decode cX8_append 33 = .ok (.getfield 15, 3) := by decide +kernel
theorem dX8_append_36 : decode cX8_append 36 = .ok (.iconst 1, 1) := by decide +kernel
theorem dX8_append_37 : decode cX8_append 37 = .ok (.iadd, 1) := by decide +kernel
theorem dX8_append_38 : decode cX8_append 38 = .ok (.putfield 15, 3) := by decide +kernel
theorem dX8_append_41 : decode cX8_append 41 = .ok (.iinc 2 (-8), 3) := by decide +kernel
theorem dX8_append_44 : decode cX8_append 44 = .ok (.goto (-41), 3) := by decide +kernel
theorem dX8_append_47 : decode cX8_append 47 = .ok (.return_, 1) := by decide +kernel
theorem dX8_cut_0 : decode cX8_cut 0 = .ok (.iload_n 1, 1) := by decide +kernel
theorem dX8_cut_1 : decode cX8_cut 1 = .ok (.ifCond .lt 11, 3) := by decide +kernel
theorem dX8_cut_4 : decode cX8_cut 4 = .ok (.iload_n 1, 1) := by decide +kernel
theorem dX8_cut_5 : decode cX8_cut 5 = .ok (.aload_n 0, 1) := by decide +kernel
theorem dX8_cut_6 : decode cX8_cut 6 = .ok (.getfield 15, 3) := by decide +kernel
theorem dX8_cut_9 : decode cX8_cut 9 = .ok (.if_icmp .le 5, 3) := by decide +kernel
theorem dX8_cut_12 : decode cX8_cut 12 = .ok (.iconst 0, 1) := by decide +kernel
theorem dX8_cut_13 : decode cX8_cut 13 = .ok (.ireturn, 1) := by decide +kernel
theorem dX8_cut_14 : decode cX8_cut 14 = .ok (.aload_n 0, 1) := by decide +kernel
theorem dX8_cut_15 : decode cX8_cut 15 = .ok (.iload_n 1, 1) := by decide +kernel
theorem dX8_cut_16 : decode cX8_cut 16 = .ok (.putfield 15, 3) := by decide +kernel
theorem dX8_cut_19 : decode cX8_cut 19 = .ok (.iconst 1, 1) := by decide +kernel
theorem dX8_cut_20 : decode cX8_cut 20 = .ok (.ireturn, 1) := by decide +kernel
theorem dX8_at_0 : decode cX8_at 0 = .ok (.iload_n 1, 1) := by decide +kernel
theorem dX8_at_1 : decode cX8_at 1 = .ok (.ifCond .lt 20, 3) := by decide +kernel
theorem dX8_at_4 : decode cX8_at 4 = .ok (.iload_n 1, 1) := by decide +kernel
theorem dX8_at_5 : decode cX8_at 5 = .ok (.aload_n 0, 1) := by decide +kernel
theorem dX8_at_6 : decode cX8_at 6 = .ok (.getfield 15, 3) := by decide +kernel
theorem dX8_at_9 : decode cX8_at 9 = .ok (.if_icmp .ge 12, 3) := by decide +kernel
theorem dX8_at_12 : decode cX8_at 12 = .ok (.aload_n 0, 1) := by decide +kernel
theorem dX8_at_13 : decode cX8_at 13 = .ok (.getfield 9, 3) := by decide +kernel
theorem dX8_at_16 : decode cX8_at 16 = .ok (.iload_n 1, 1) := by decide +kernel
theorem dX8_at_17 : decode cX8_at 17 = .ok (.iaload, 1) := by decide +kernel
theorem dX8_at_18 : decode cX8_at 18 = .ok (.goto 4, 3) := by decide +kernel
theorem dX8_at_21 : decode cX8_at 21 = .ok (.iconst (-1), 1) := by decide +kernel
theorem dX8_at_22 : decode cX8_at 22 = .ok (.ireturn, 1) := by decide +kernel
set_option maxRecDepth 20000 in
theorem ggX9_init_X0_init : GoodIn wsX9_init wsX0_init := goodIn_r _ [38, 39, 2, 3, 40, 41, 42, 43, 44, 45, 46, 47, 114, 115, 116, 117, 118, 119, 120] (by decide +kernel) (by decide +kernel)
set_option maxRecDepth 20000 in
theorem gX9_init_X0_init : GoodIn wsX9_init (wsX0_init) := ggX9_init_X0_init
set_option maxRecDepth 20000 in
theorem ggX9_init_X8_init : GoodIn wsX9_init wsX8_init := goodIn_r _ [49, 50, 2, 3, 40, 51, 129, 130] (by decide +kernel) (by decide +kernel)
set_option maxRecDepth 20000 in
theorem gX9_init_X8_init_n18 : GoodIn wsX9_init (wsX8_init) := ggX9_init_X8_init
set_option maxRecDepth 20000 in
theorem ggX9_init_X5_init : GoodIn wsX9_init wsX5_init := goodIn_r _ [54, 55, 2, 3, 56, 131, 132, 133, 134] (by decide +kernel) (by decide +kernel)
set_option maxRecDepth 20000 in
theorem gX9_init_X5_init : GoodIn wsX9_init (wsX5_init) := ggX9_init_X5_init
set_option maxRecDepth 20000 in
theorem ggX9_init_X1_init : GoodIn wsX9_init wsX1_init := goodIn_r _ [58, 59, 2, 3, 40, 60, 135, 136, 137, 138] (by decide +kernel) (by decide +kernel)
set_option maxRecDepth 20000 in
theorem gX9_init_X1_init_n34 : GoodIn wsX9_init (wsX1_init) := ggX9_init_X1_init
set_option maxRecDepth 20000 in
theorem ggX9_init_X4_init : GoodIn wsX9_init wsX4_init := goodIn_r _ [62, 63, 2, 3, 40, 64, 139, 140, 141, 142, 143] (by decide +kernel) (by decide +kernel)
set_option maxRecDepth 20000 in
theorem gX9_init_X4_init_n41 : GoodIn wsX9_init (wsX4_init) := ggX9_init_X4_init
set_option maxRecDepth 20000 in
theorem ggX9_init_X6_init : GoodIn wsX9_init wsX6_init := goodIn_r _ [67, 68, 2, 3, 69, 40, 70, 71, 72, 73, 74, 33, 34, 75, 76, 77, 78, 79, 80, 81, 82, 83, 84, 85, 86, 144, 145, 146, 147, 148, 149, 150, 151, 152, 153, 170, 171, 172, 173, 174] (by decide +kernel) (by decide +kernel)
set_option maxRecDepth 20000 in
theorem gX9_init_X6_init : GoodIn wsX9_init (wsX6_init) := ggX9_init_X6_init
set_option maxRecDepth 20000 in
theorem ggX9_init_X2_init : GoodIn wsX9_init wsX2_init := goodIn_r _ [89, 90, 2, 3, 46, 91, 92, 40, 93, 94, 43, 95, 96, 97, 98, 99, 100, 101, 102, 103, 104, 105, 106, 107, 108, 109, 110, 111, 112, 113, 154, 155, 156, 157, 158, 159, 160, 161, 162, 163, 164, 165, 166, 167, 168, 169, 175, 176, 177, 178] (by decide +kernel) (by decide +kernel)
set_option maxRecDepth 20000 in
theorem gX9_init_X2_init : GoodIn wsX9_init (wsX2_init) := ggX9_init_X2_init
set_option maxRecDepth 20000 in
theorem ggX9_init_X3_init : GoodIn wsX9_init wsX3_init := goodIn_r _ [81, 82, 2, 3, 40, 83, 84, 85, 86, 170, 171, 172, 173, 174] (by decide +kernel) (by decide +kernel)
set_option maxRecDepth 20000 in
theorem gX9_init_X3_init_n66 : GoodIn wsX9_init (wsX3_init) := ggX9_init_X3_init
theorem dX9_init_0 : decode cX9_init 0 = .ok (.aload_n 0, 1) := by decide +kernel
theorem dX9_init_1 : decode cX9_init 1 = .ok (.invokespecial 3, 3) := by decide +kernel
theorem dX9_init_4 : decode cX9_init 4 = .ok (.aload_n 0, 1) := by decide +kernel
theorem dX9_init_5 : decode cX9_init 5 = .ok (.new 9, 3) := by decide +kernel
theorem dX9_init_8 : decode cX9_init 8 = .ok (.dup, 1) := by decide +kernel
theorem dX9_init_9 : decode cX9_init 9 = .ok (.invokespecial 11, 3) := by decide +kernel
theorem dX9_init_12 : decode cX9_init 12 = .ok (.putfield 12, 3) := by decide +kernel
theorem dX9_init_15 : decode cX9_init 15 = .ok (.aload_n 0, 1) := by decide +kernel
theorem dX9_init_16 : decode cX9_init 16 = .ok (.new 16, 3) := by decide +kernel
theorem dX9_init_19 : decode cX9_init 19 = .ok (.dup, 1) := by decide +kernel
theorem dX9_init_20 : decode cX9_init 20 = .ok (.invokespecial 18, 3) := by decide +kernel
theorem dX9_init_23 : decode cX9_init 23 = .ok (.putfield 19, 3) := by decide +kernel
theorem dX9_init_26 : decode cX9_init 26 = .ok (.aload_n 0, 1) := by decide +kernel
theorem dX9_init_27 : decode cX9_init 27 = .ok (.new 23, 3) := by decide +kernel
theorem dX9_init_30 : decode cX9_init 30 = .ok (.dup, 1) := by decide +kernel
theorem dX9_init_31 : decode cX9_init 31 = .ok (.aload_n 0, 1) := by decide +kernel
theorem dX9_init_32 : decode cX9_init 32 = .ok (.getfield 19, 3) := by decide +kernel
theorem dX9_init_35 : decode cX9_init 35 = .ok (.invokespecial 25, 3) := by decide +kernel
theorem dX9_init_38 : decode cX9_init 38 = .ok (.putfield 28, 3) := by decide +kernel
theorem dX9_init_41 : decode cX9_init 41 = .ok (.aload_n 0, 1) := by decide +kernel
theorem dX9_init_42 : decode cX9_init 42 = .ok (.new 32, 3) := by decide +kernel
theorem dX9_init_45 : decode cX9_init 45 = .ok (.dup, 1) := by decide +kernel
theorem dX9_init_46 : decode cX9_init 46 = .ok (.invokespecial 34, 3) := by decide +kernel
theorem dX9_init_49 : decode cX9_init 49 = .ok (.putfield 35, 3) := by decide +kernel
theorem dX9_init_52 : decode cX9_init 52 = .ok (.aload_n 0, 1) := by decide +kernel
theorem dX9_init_53 : decode cX9_init 53 = .ok (.new 39, 3) := by decide +kernel
theorem dX9_init_56 : decode cX9_init 56 = .ok (.dup, 1) := by decide +kernel
theorem dX9_init_57 : decode cX9_init 57 = .ok (.invokespecial 41, 3) := by decide +kernel
theorem dX9_init_60 : decode cX9_init 60 = .ok (.putfield 42, 3) := by decide +kernel
theorem dX9_init_63 : decode cX9_init 63 = .ok (.aload_n 0, 1) := by decide +kernel
theorem dX9_init_64 : decode cX9_init 64 = .ok (.new 46, 3) := by decide +kernel
theorem dX9_init_67 : decode cX9_init 67 = .ok (.dup, 1) := by decide +kernel
theorem dX9_init_68 : decode cX9_init 68 = .ok (.aload_n 0, 1) := by decide +kernel
theorem dX9_init_69 : decode cX9_init 69 = .ok (.getfield 12, 3) := by decide +kernel
theorem dX9_init_72 : decode cX9_init 72 = .ok (.aload_n 0, 1) := by decide +kernel
theorem dX9_init_73 : decode cX9_init 73 = .ok (.getfield 35, 3) := by decide +kernel
theorem dX9_init_76 : decode cX9_init 76 = .ok (.aload_n 0, 1) := by decide +kernel
theorem dX9_init_77 : decode cX9_init 77 = .ok (.getfield 42, 3) := by decide +kernel
theorem dX9_init_80 : decode cX9_init 80 = .ok (.invokespecial 48, 3) := by decide +kernel
theorem dX9_init_83 : decode cX9_init 83 = .ok (.putfield 51, 3) := by decide +kernel
theorem dX9_init_86 : decode cX9_init 86 = .ok (.aload_n 0, 1) := by decide +kernel
theorem dX9_init_87 : decode cX9_init 87 = .ok (.new 55, 3) := by decide +kernel
theorem dX9_init_90 : decode cX9_init 90 = .ok (.dup, 1) := by decide +kernel
theorem dX9_init_91 : decode cX9_init 91 = .ok (.aload_n 0, 1) := by decide +kernel
theorem dX9_init_92 : decode cX9_init 92 = .ok (.getfield 12, 3) := by decide +kernel
theorem dX9_init_95 : decode cX9_init 95 = .ok (.aload_n 0, 1) := by decide +kernel
theorem dX9_init_96 : decode cX9_init 96 = .ok (.getfield 51, 3) := by decide +kernel
theorem dX9_init_99 : decode cX9_init 99 = .ok (.invokespecial 57, 3) := by decide +kernel
theorem dX9_init_102 : decode cX9_init 102 = .ok (.putfield 60, 3) := by decide +kernel
theorem dX9_init_105 : decode cX9_init 105 = .ok (.aload_n 0, 1) := by decide +kernel
theorem dX9_init_106 : decode cX9_init 106 = .ok (.new 64, 3) := by decide +kernel
theorem dX9_init_109 : decode cX9_init 109 = .ok (.dup, 1) := by decide +kernel
theorem dX9_init_110 : decode cX9_init 110 = .ok (.invokespecial 66, 3) := by decide +kernel
theorem dX9_init_113 : decode cX9_init 113 = .ok (.putfield 67, 3) := by decide +kernel
theorem dX9_init_116 : decode cX9_init 116 = .ok (.return_, 1) := by decide +kernel
set_option maxRecDepth 20000 in
theorem ggX9_citizen_X6_stepsDone : GoodIn wsX9_citizen wsX6_stepsDone := goodIn_r _ [7, 8, 32, 33, 34, 35, 36, 37, 38, 39, 40, 41] (by decide +kernel) (by decide +kernel)
set_option maxRecDepth 20000 in
theorem gX9_citizen_X6_stepsDone : GoodIn wsX9_citizen (wsV RX9 71 RX6 yX6_stepsDone wsX6_stepsDone) := goodIn_app (goodIn_of _ (by decide +kernel)) ggX9_citizen_X6_stepsDone
set_option maxRecDepth 20000 in
theorem ggX9_citizen_X0_settle : GoodIn wsX9_citizen wsX0_settle := goodIn_r _ [13, 14, 15, 16, 17, 18, 19, 12, 20, 21, 22, 23, 42, 43, 44, 45, 46, 47, 48] (by decide +kernel) (by decide +kernel)
set_option maxRecDepth 20000 in
theorem gX9_citizen_X0_settle : GoodIn wsX9_citizen (wsV RX9 75 RX0 yX0_settle wsX0_settle) := goodIn_app (goodIn_of _ (by decide +kernel)) ggX9_citizen_X0_settle
theorem dX9_citizen_0 : decode cX9_citizen 0 = .ok (.aload_n 0, 1) := by decide +kernel
theorem dX9_citizen_1 : decode cX9_citizen 1 = .ok (.getfield 51, 3) := by decide +kernel
theorem dX9_citizen_4 : decode cX9_citizen 4 = .ok (.invokevirtual 71, 3) := by decide +kernel
theorem dX9_citizen_7 : decode cX9_citizen 7 = .ok (.ifCond .le 5, 3) := by decide +kernel
theorem dX9_citizen_10 : decode cX9_citizen 10 = .ok (.iconst (-1), 1) := by decide +kernel
theorem dX9_citizen_11 : decode cX9_citizen 11 = .ok (.ireturn, 1) := by decide +kernel
theorem dX9_citizen_12 : decode cX9_citizen 12 = .ok (.aload_n 0, 1) := by decide +kernel
theorem dX9_citizen_13 : decode cX9_citizen 13 = .ok (.getfield 12, 3) := by decide +kernel
theorem dX9_citizen_16 : decode cX9_citizen 16 = .ok (.iload_n 1, 1) := by decide +kernel
theorem dX9_citizen_17 : decode cX9_citizen 17 = .ok (.iload_n 2, 1) := by decide +kernel
theorem dX9_citizen_18 : decode cX9_citizen 18 = .ok (.invokevirtual 75, 3) := by decide +kernel
theorem dX9_citizen_21 : decode cX9_citizen 21 = .ok (.ireturn, 1) := by decide +kernel
set_option maxRecDepth 20000 in
theorem ggX9_there_X0_setThere : GoodIn wsX9_there wsX0_setThere := goodIn_r _ [6, 7, 8, 9, 10, 5, 11, 12, 21, 22, 23, 24, 25, 26, 27] (by decide +kernel) (by decide +kernel)
set_option maxRecDepth 20000 in
theorem gX9_there_X0_setThere : GoodIn wsX9_there (wsV RX9 79 RX0 yX0_setThere wsX0_setThere) := goodIn_app (goodIn_of _ (by decide +kernel)) ggX9_there_X0_setThere
theorem dX9_there_0 : decode cX9_there 0 = .ok (.aload_n 0, 1) := by decide +kernel
theorem dX9_there_1 : decode cX9_there 1 = .ok (.getfield 12, 3) := by decide +kernel
theorem dX9_there_4 : decode cX9_there 4 = .ok (.iload_n 1, 1) := by decide +kernel
theorem dX9_there_5 : decode cX9_there 5 = .ok (.iload_n 2, 1) := by decide +kernel
theorem dX9_there_6 : decode cX9_there 6 = .ok (.invokevirtual 79, 3) := by decide +kernel
theorem dX9_there_9 : decode cX9_there 9 = .ok (.ireturn, 1) := by decide +kernel
set_option maxRecDepth 20000 in
theorem ggX9_kin_X0_tellKin : GoodIn wsX9_kin wsX0_tellKin := goodIn_r _ [6, 7, 8, 9, 10, 11, 5, 12, 13, 14, 15, 16, 17, 26, 27, 28, 29, 30, 31, 32] (by decide +kernel) (by decide +kernel)
set_option maxRecDepth 20000 in
theorem gX9_kin_X0_tellKin : GoodIn wsX9_kin (wsV RX9 83 RX0 yX0_tellKin wsX0_tellKin) := goodIn_app (goodIn_of _ (by decide +kernel)) ggX9_kin_X0_tellKin
theorem dX9_kin_0 : decode cX9_kin 0 = .ok (.aload_n 0, 1) := by decide +kernel
theorem dX9_kin_1 : decode cX9_kin 1 = .ok (.getfield 12, 3) := by decide +kernel
theorem dX9_kin_4 : decode cX9_kin 4 = .ok (.iload_n 1, 1) := by decide +kernel
theorem dX9_kin_5 : decode cX9_kin 5 = .ok (.iload_n 2, 1) := by decide +kernel
theorem dX9_kin_6 : decode cX9_kin 6 = .ok (.invokevirtual 83, 3) := by decide +kernel
theorem dX9_kin_9 : decode cX9_kin 9 = .ok (.ireturn, 1) := by decide +kernel
set_option maxRecDepth 20000 in
theorem ggX9_says_X0_setYes : GoodIn wsX9_says wsX0_setYes := goodIn_r _ [6, 7, 8, 9, 5, 10, 19, 20, 21, 22, 23, 24, 25] (by decide +kernel) (by decide +kernel)
set_option maxRecDepth 20000 in
theorem gX9_says_X0_setYes : GoodIn wsX9_says (wsV RX9 87 RX0 yX0_setYes wsX0_setYes) := goodIn_app (goodIn_of _ (by decide +kernel)) ggX9_says_X0_setYes
theorem dX9_says_0 : decode cX9_says 0 = .ok (.aload_n 0, 1) := by decide +kernel
theorem dX9_says_1 : decode cX9_says 1 = .ok (.getfield 12, 3) := by decide +kernel
theorem dX9_says_4 : decode cX9_says 4 = .ok (.iload_n 1, 1) := by decide +kernel
theorem dX9_says_5 : decode cX9_says 5 = .ok (.iload_n 2, 1) := by decide +kernel
theorem dX9_says_6 : decode cX9_says 6 = .ok (.iload_n 3, 1) := by decide +kernel
theorem dX9_says_7 : decode cX9_says 7 = .ok (.invokevirtual 87, 3) := by decide +kernel
theorem dX9_says_10 : decode cX9_says 10 = .ok (.ireturn, 1) := by decide +kernel
set_option maxRecDepth 20000 in
theorem ggX9_turn_X0_convert : GoodIn wsX9_turn wsX0_convert := goodIn_r _ [6, 7, 8, 9, 10, 11, 5, 12, 13, 14, 15, 16, 17, 18, 19, 28, 29, 30, 31, 32, 33, 34] (by decide +kernel) (by decide +kernel)
set_option maxRecDepth 20000 in
theorem gX9_turn_X0_convert : GoodIn wsX9_turn (wsV RX9 91 RX0 yX0_convert wsX0_convert) := goodIn_app (goodIn_of _ (by decide +kernel)) ggX9_turn_X0_convert
theorem dX9_turn_0 : decode cX9_turn 0 = .ok (.aload_n 0, 1) := by decide +kernel
theorem dX9_turn_1 : decode cX9_turn 1 = .ok (.getfield 12, 3) := by decide +kernel
theorem dX9_turn_4 : decode cX9_turn 4 = .ok (.iload_n 1, 1) := by decide +kernel
theorem dX9_turn_5 : decode cX9_turn 5 = .ok (.iload_n 2, 1) := by decide +kernel
theorem dX9_turn_6 : decode cX9_turn 6 = .ok (.iload_n 3, 1) := by decide +kernel
theorem dX9_turn_7 : decode cX9_turn 7 = .ok (.invokevirtual 91, 3) := by decide +kernel
theorem dX9_turn_10 : decode cX9_turn 10 = .ok (.ireturn, 1) := by decide +kernel
set_option maxRecDepth 20000 in
theorem ggX9_feed_X8_hasRoom : GoodIn wsX9_feed wsX8_hasRoom := goodIn_r _ [6, 7, 26, 27] (by decide +kernel) (by decide +kernel)
set_option maxRecDepth 20000 in
theorem gX9_feed_X8_hasRoom : GoodIn wsX9_feed (wsV RX9 95 RX8 yX8_hasRoom wsX8_hasRoom) := goodIn_app (goodIn_of _ (by decide +kernel)) ggX9_feed_X8_hasRoom
set_option maxRecDepth 20000 in
theorem ggX9_feed_X8_append : GoodIn wsX9_feed wsX8_append := goodIn_r _ [11, 12, 7, 13, 3, 4, 5, 6, 26, 27] (by decide +kernel) (by decide +kernel)
set_option maxRecDepth 20000 in
theorem gX9_feed_X8_append : GoodIn wsX9_feed (wsV RX9 99 RX8 yX8_append wsX8_append) := goodIn_app (goodIn_of _ (by decide +kernel)) ggX9_feed_X8_append
set_option maxRecDepth 20000 in
theorem ggX9_feed_X8_length : GoodIn wsX9_feed wsX8_length := goodIn_r _ [17, 7, 26, 27] (by decide +kernel) (by decide +kernel)
set_option maxRecDepth 20000 in
theorem gX9_feed_X8_length : GoodIn wsX9_feed (wsV RX9 103 RX8 yX8_length wsX8_length) := goodIn_app (goodIn_of _ (by decide +kernel)) ggX9_feed_X8_length
theorem dX9_feed_0 : decode cX9_feed 0 = .ok (.aload_n 0, 1) := by decide +kernel
theorem dX9_feed_1 : decode cX9_feed 1 = .ok (.getfield 19, 3) := by decide +kernel
theorem dX9_feed_4 : decode cX9_feed 4 = .ok (.bipush 20, 2) := by decide +kernel
theorem dX9_feed_6 : decode cX9_feed 6 = .ok (.invokevirtual 95, 3) := by decide +kernel
theorem dX9_feed_9 : decode cX9_feed 9 = .ok (.ifCond .ne 5, 3) := by decide +kernel
theorem dX9_feed_12 : decode cX9_feed 12 = .ok (.iconst (-1), 1) := by decide +kernel
theorem dX9_feed_13 : decode cX9_feed 13 = .ok (.ireturn, 1) := by decide +kernel
theorem dX9_feed_14 : decode cX9_feed 14 = .ok (.aload_n 0, 1) := by decide +kernel
theorem dX9_feed_15 : decode cX9_feed 15 = .ok (.getfield 19, 3) := by decide +kernel
theorem dX9_feed_18 : decode cX9_feed 18 = .ok (.iload_n 1, 1) := by decide +kernel
theorem dX9_feed_19 : decode cX9_feed 19 = .ok (.invokevirtual 99, 3) := by decide +kernel
theorem dX9_feed_22 : decode cX9_feed 22 = .ok (.aload_n 0, 1) := by decide +kernel
theorem dX9_feed_23 : decode cX9_feed 23 = .ok (.getfield 19, 3) := by decide +kernel
theorem dX9_feed_26 : decode cX9_feed 26 = .ok (.iload_n 2, 1) := by decide +kernel
theorem dX9_feed_27 : decode cX9_feed 27 = .ok (.invokevirtual 99, 3) := by decide +kernel
theorem dX9_feed_30 : decode cX9_feed 30 = .ok (.aload_n 0, 1) := by decide +kernel
theorem dX9_feed_31 : decode cX9_feed 31 = .ok (.getfield 19, 3) := by decide +kernel
theorem dX9_feed_34 : decode cX9_feed 34 = .ok (.iload_n 3, 1) := by decide +kernel
theorem dX9_feed_35 : decode cX9_feed 35 = .ok (.invokevirtual 99, 3) := by decide +kernel
theorem dX9_feed_38 : decode cX9_feed 38 = .ok (.aload_n 0, 1) := by decide +kernel
theorem dX9_feed_39 : decode cX9_feed 39 = .ok (.getfield 19, 3) := by decide +kernel
theorem dX9_feed_42 : decode cX9_feed 42 = .ok (.iload 4, 2) := by decide +kernel
theorem dX9_feed_44 : decode cX9_feed 44 = .ok (.invokevirtual 99, 3) := by decide +kernel
theorem dX9_feed_47 : decode cX9_feed 47 = .ok (.aload_n 0, 1) := by decide +kernel
theorem dX9_feed_48 : decode cX9_feed 48 = .ok (.getfield 19, 3) := by decide +kernel
theorem dX9_feed_51 : decode cX9_feed 51 = .ok (.iload 5, 2) := by decide +kernel
theorem dX9_feed_53 : decode cX9_feed 53 = .ok (.invokevirtual 99, 3) := by decide +kernel
theorem dX9_feed_56 : decode cX9_feed 56 = .ok (.aload_n 0, 1) := by decide +kernel
theorem dX9_feed_57 : decode cX9_feed 57 = .ok (.getfield 19, 3) := by decide +kernel
theorem dX9_feed_60 : decode cX9_feed 60 = .ok (.invokevirtual 103, 3) := by decide +kernel
theorem dX9_feed_63 : decode cX9_feed 63 = .ok (.ireturn, 1) := by decide +kernel
set_option maxRecDepth 20000 in
theorem ggX9_end_X8_cut : GoodIn wsX9_end wsX8_cut := goodIn_r _ [6, 7, 16, 17] (by decide +kernel) (by decide +kernel)
set_option maxRecDepth 20000 in
theorem gX9_end_X8_cut : GoodIn wsX9_end (wsV RX9 106 RX8 yX8_cut wsX8_cut) := goodIn_app (goodIn_of _ (by decide +kernel)) ggX9_end_X8_cut
theorem dX9_end_0 : decode cX9_end 0 = .ok (.aload_n 0, 1) := by decide +kernel
theorem dX9_end_1 : decode cX9_end 1 = .ok (.getfield 19, 3) := by decide +kernel
theorem dX9_end_4 : decode cX9_end 4 = .ok (.iload_n 1, 1) := by decide +kernel
theorem dX9_end_5 : decode cX9_end 5 = .ok (.invokevirtual 106, 3) := by decide +kernel
theorem dX9_end_8 : decode cX9_end 8 = .ok (.ifCond .eq 7, 3) := by decide +kernel
theorem dX9_end_11 : decode cX9_end 11 = .ok (.iload_n 1, 1) := by decide +kernel
theorem dX9_end_12 : decode cX9_end 12 = .ok (.goto 4, 3) := by decide +kernel
theorem dX9_end_15 : decode cX9_end 15 = .ok (.iconst (-1), 1) := by decide +kernel
theorem dX9_end_16 : decode cX9_end 16 = .ok (.ireturn, 1) := by decide +kernel
set_option maxRecDepth 20000 in
theorem ggX9_procedure_X5_read : GoodIn wsX9_procedure wsX5_read := goodIn_r _ [9, 10, 11, 12, 13, 14, 15, 16, 17, 18, 19, 20, 21, 8, 22, 23, 24, 25, 26, 27, 28, 29, 30, 31, 32, 33, 34, 35, 36, 37, 38, 39, 40, 41, 42, 43, 44, 45, 46, 47, 48, 49, 50, 51, 52, 53, 54, 55, 56, 57, 58, 59, 60, 61, 62, 63, 64, 65, 66, 67, 68, 69, 70, 71, 72, 73, 74, 75, 76, 77, 78, 79, 80, 81, 82, 83, 84, 85, 86, 87, 88, 89, 90, 91, 92, 93, 94, 95, 96, 97, 98, 99, 100, 101, 102, 103, 104, 105, 106, 107, 108, 109, 110, 111, 112, 113, 114, 115, 116, 117, 118, 119, 120, 121, 122, 123, 124, 125, 126, 127, 128, 129, 130, 131, 132, 133, 162, 163, 164, 165, 166, 167, 168, 169, 170, 171, 172] (by decide +kernel) (by decide +kernel)
set_option maxRecDepth 20000 in
theorem gX9_procedure_X5_read : GoodIn wsX9_procedure (wsV RX9 109 RX5 yX5_read wsX5_read) := goodIn_app (goodIn_of _ (by decide +kernel)) ggX9_procedure_X5_read
set_option maxRecDepth 20000 in
theorem ggX9_procedure_X8_cut : GoodIn wsX9_procedure wsX8_cut := goodIn_r _ [137, 33, 171, 172] (by decide +kernel) (by decide +kernel)
set_option maxRecDepth 20000 in
theorem gX9_procedure_X8_cut : GoodIn wsX9_procedure (wsV RX9 106 RX8 yX8_cut wsX8_cut) := goodIn_app (goodIn_of _ (by decide +kernel)) ggX9_procedure_X8_cut
set_option maxRecDepth 20000 in
theorem ggX9_procedure_X6_begin : GoodIn wsX9_procedure wsX6_begin := goodIn_r _ [142, 143, 144, 145, 173, 174, 175, 176, 177, 178, 179, 180, 181, 182] (by decide +kernel) (by decide +kernel)
set_option maxRecDepth 20000 in
theorem gX9_procedure_X6_begin : GoodIn wsX9_procedure (wsV RX9 113 RX6 yX6_begin wsX6_begin) := goodIn_app (goodIn_of _ (by decide +kernel)) ggX9_procedure_X6_begin
set_option maxRecDepth 20000 in
theorem ggX9_procedure_X6_stepsInAll : GoodIn wsX9_procedure wsX6_stepsInAll := goodIn_r _ [149, 143, 150, 151, 152, 16, 153, 18, 173, 174, 175, 176, 177, 178, 179, 180, 181, 182, 166, 167, 168, 169, 170] (by decide +kernel) (by decide +kernel)
set_option maxRecDepth 20000 in
theorem gX9_procedure_X6_stepsInAll : GoodIn wsX9_procedure (wsV RX9 117 RX6 yX6_stepsInAll wsX6_stepsInAll) := goodIn_app (goodIn_of _ (by decide +kernel)) ggX9_procedure_X6_stepsInAll
theorem dX9_procedure_0 : decode cX9_procedure 0 = .ok (.aload_n 0, 1) := by decide +kernel
theorem dX9_procedure_1 : decode cX9_procedure 1 = .ok (.getfield 28, 3) := by decide +kernel
theorem dX9_procedure_4 : decode cX9_procedure 4 = .ok (.aload_n 0, 1) := by decide +kernel
theorem dX9_procedure_5 : decode cX9_procedure 5 = .ok (.getfield 67, 3) := by decide +kernel
theorem dX9_procedure_8 : decode cX9_procedure 8 = .ok (.invokevirtual 109, 3) := by decide +kernel
theorem dX9_procedure_11 : decode cX9_procedure 11 = .ok (.istore_n 1, 1) := by decide +kernel
theorem dX9_procedure_12 : decode cX9_procedure 12 = .ok (.aload_n 0, 1) := by decide +kernel
theorem dX9_procedure_13 : decode cX9_procedure 13 = .ok (.getfield 19, 3) := by decide +kernel
theorem dX9_procedure_16 : decode cX9_procedure 16 = .ok (.iconst 0, 1) := by decide +kernel
theorem dX9_procedure_17 : decode cX9_procedure 17 = .ok (.invokevirtual 106, 3) := by decide +kernel
theorem dX9_procedure_20 : decode cX9_procedure 20 = .ok (.pop, 1) := by decide +kernel
theorem dX9_procedure_21 : decode cX9_procedure 21 = .ok (.iload_n 1, 1) := by decide +kernel
theorem dX9_procedure_22 : decode cX9_procedure 22 = .ok (.ifCond .eq 8, 3) := by decide +kernel
theorem dX9_procedure_25 : decode cX9_procedure 25 = .ok (.bipush (-2), 2) := by decide +kernel
theorem dX9_procedure_27 : decode cX9_procedure 27 = .ok (.iload_n 1, 1) := by decide +kernel
theorem dX9_procedure_28 : decode cX9_procedure 28 = .ok (.isub, 1) := by decide +kernel
theorem dX9_procedure_29 : decode cX9_procedure 29 = .ok (.ireturn, 1) := by decide +kernel
theorem dX9_procedure_30 : decode cX9_procedure 30 = .ok (.aload_n 0, 1) := by decide +kernel
theorem dX9_procedure_31 : decode cX9_procedure 31 = .ok (.aload_n 0, 1) := by decide +kernel
theorem dX9_procedure_32 : decode cX9_procedure 32 = .ok (.getfield 51, 3) := by decide +kernel
theorem dX9_procedure_35 : decode cX9_procedure 35 = .ok (.aload_n 0, 1) := by decide +kernel
theorem dX9_procedure_36 : decode cX9_procedure 36 = .ok (.getfield 67, 3) := by decide +kernel
theorem dX9_procedure_39 : decode cX9_procedure 39 = .ok (.invokevirtual 113, 3) := by decide +kernel
theorem dX9_procedure_42 : decode cX9_procedure 42 = .ok (.putfield 67, 3) := by decide +kernel
theorem dX9_procedure_45 : decode cX9_procedure 45 = .ok (.aload_n 0, 1) := by decide +kernel
theorem dX9_procedure_46 : decode cX9_procedure 46 = .ok (.getfield 51, 3) := by decide +kernel
theorem dX9_procedure_49 : decode cX9_procedure 49 = .ok (.invokevirtual 117, 3) := by decide +kernel
theorem dX9_procedure_52 : decode cX9_procedure 52 = .ok (.ireturn, 1) := by decide +kernel
set_option maxRecDepth 20000 in
theorem ggX9_lot_X1_tell : GoodIn wsX9_lot wsX1_tell := goodIn_r _ [6, 7, 8, 9, 18, 19, 20, 21] (by decide +kernel) (by decide +kernel)
set_option maxRecDepth 20000 in
theorem gX9_lot_X1_tell : GoodIn wsX9_lot (wsV RX9 120 RX1 yX1_tell wsX1_tell) := goodIn_app (goodIn_of _ (by decide +kernel)) ggX9_lot_X1_tell
theorem dX9_lot_0 : decode cX9_lot 0 = .ok (.aload_n 0, 1) := by decide +kernel
theorem dX9_lot_1 : decode cX9_lot 1 = .ok (.getfield 35, 3) := by decide +kernel
theorem dX9_lot_4 : decode cX9_lot 4 = .ok (.iload_n 1, 1) := by decide +kernel
theorem dX9_lot_5 : decode cX9_lot 5 = .ok (.invokevirtual 120, 3) := by decide +kernel
theorem dX9_lot_8 : decode cX9_lot 8 = .ok (.ireturn, 1) := by decide +kernel
set_option maxRecDepth 20000 in
theorem ggX9_step_X6_doNext : GoodIn wsX9_step wsX6_doNext := goodIn_r _ [6, 7, 8, 9, 10, 11, 12, 13, 14, 15, 16, 17, 18, 19, 20, 21, 22, 23, 24, 25, 26, 27, 28, 29, 30, 31, 5, 32, 33, 34, 35, 36, 37, 38, 39, 40, 41, 42, 43, 44, 45, 46, 47, 48, 49, 50, 51, 52, 53, 54, 55, 56, 57, 58, 59, 60, 61, 62, 63, 64, 65, 66, 67, 68, 69, 70, 71, 72, 73, 74, 75, 76, 77, 78, 79, 80, 81, 82, 83, 84, 85, 86, 87, 88, 89, 90, 91, 92, 93, 94, 95, 96, 97, 98, 99, 100, 101, 102, 103, 104, 105, 106, 107, 108, 109, 110, 111, 112, 113, 114, 115, 116, 117, 118, 119, 120, 121, 122, 123, 124, 125, 126, 127, 128, 129, 130, 131, 132, 133, 134, 135, 136, 137, 138, 139, 140, 141, 142, 143, 144, 145, 146, 147, 148, 149, 150, 151, 152, 153, 154, 155, 156, 157, 158, 159, 160, 161, 162, 163, 164, 165, 166, 167, 168, 169, 170, 171, 172, 173, 174, 175, 176, 177, 178, 179, 180, 181, 182, 183, 184, 185, 186, 187, 196, 197, 198, 199, 200, 201, 202, 203, 204, 205, 206, 207, 208, 209, 210, 211, 212, 213, 214, 215, 216, 217, 218, 219, 220, 221, 222, 223, 224, 225, 226] (by decide +kernel) (by decide +kernel)
set_option maxRecDepth 20000 in
theorem gX9_step_X6_doNext : GoodIn wsX9_step (wsV RX9 124 RX6 yX6_doNext wsX6_doNext) := goodIn_app (goodIn_of _ (by decide +kernel)) ggX9_step_X6_doNext
theorem dX9_step_0 : decode cX9_step 0 = .ok (.aload_n 0, 1) := by decide +kernel
theorem dX9_step_1 : decode cX9_step 1 = .ok (.getfield 51, 3) := by decide +kernel
theorem dX9_step_4 : decode cX9_step 4 = .ok (.invokevirtual 124, 3) := by decide +kernel
theorem dX9_step_7 : decode cX9_step 7 = .ok (.ireturn, 1) := by decide +kernel
set_option maxRecDepth 20000 in
theorem ggX9_protest_X6_undoFrom : GoodIn wsX9_protest wsX6_undoFrom := goodIn_r _ [6, 7, 8, 17, 18, 19, 20, 21, 22, 23, 24, 25, 26] (by decide +kernel) (by decide +kernel)
set_option maxRecDepth 20000 in
theorem gX9_protest_X6_undoFrom : GoodIn wsX9_protest (wsV RX9 127 RX6 yX6_undoFrom wsX6_undoFrom) := goodIn_app (goodIn_of _ (by decide +kernel)) ggX9_protest_X6_undoFrom
theorem dX9_protest_0 : decode cX9_protest 0 = .ok (.aload_n 0, 1) := by decide +kernel
theorem dX9_protest_1 : decode cX9_protest 1 = .ok (.getfield 51, 3) := by decide +kernel
theorem dX9_protest_4 : decode cX9_protest 4 = .ok (.iload_n 1, 1) := by decide +kernel
theorem dX9_protest_5 : decode cX9_protest 5 = .ok (.invokevirtual 127, 3) := by decide +kernel
theorem dX9_protest_8 : decode cX9_protest 8 = .ok (.ireturn, 1) := by decide +kernel
set_option maxRecDepth 20000 in
theorem ggX9_body_X6_member : GoodIn wsX9_body wsX6_member := goodIn_r _ [6, 7, 8, 9, 10, 11, 5, 12, 13, 14, 15, 16, 17, 18, 19, 20, 21, 22, 23, 24, 25, 26, 27, 28, 29, 30, 31, 32, 33, 42, 43, 44, 45, 46, 47, 48, 49, 50, 51, 52, 53, 54, 55, 56, 57, 58] (by decide +kernel) (by decide +kernel)
set_option maxRecDepth 20000 in
theorem gX9_body_X6_member : GoodIn wsX9_body (wsV RX9 130 RX6 yX6_member wsX6_member) := goodIn_app (goodIn_of _ (by decide +kernel)) ggX9_body_X6_member
theorem dX9_body_0 : decode cX9_body 0 = .ok (.aload_n 0, 1) := by decide +kernel
theorem dX9_body_1 : decode cX9_body 1 = .ok (.getfield 51, 3) := by decide +kernel
theorem dX9_body_4 : decode cX9_body 4 = .ok (.iload_n 1, 1) := by decide +kernel
theorem dX9_body_5 : decode cX9_body 5 = .ok (.invokevirtual 130, 3) := by decide +kernel
theorem dX9_body_8 : decode cX9_body 8 = .ok (.ireturn, 1) := by decide +kernel
set_option maxRecDepth 20000 in
theorem ggX9_ballot_X4_answer : GoodIn wsX9_ballot wsX4_answer := goodIn_r _ [6, 7, 8, 9, 10, 11, 12, 13, 5, 14, 15, 24, 25, 26, 27, 28] (by decide +kernel) (by decide +kernel)
set_option maxRecDepth 20000 in
theorem gX9_ballot_X4_answer : GoodIn wsX9_ballot (wsV RX9 133 RX4 yX4_answer wsX4_answer) := goodIn_app (goodIn_of _ (by decide +kernel)) ggX9_ballot_X4_answer
theorem dX9_ballot_0 : decode cX9_ballot 0 = .ok (.aload_n 0, 1) := by decide +kernel
theorem dX9_ballot_1 : decode cX9_ballot 1 = .ok (.getfield 42, 3) := by decide +kernel
theorem dX9_ballot_4 : decode cX9_ballot 4 = .ok (.iload_n 1, 1) := by decide +kernel
theorem dX9_ballot_5 : decode cX9_ballot 5 = .ok (.invokevirtual 133, 3) := by decide +kernel
theorem dX9_ballot_8 : decode cX9_ballot 8 = .ok (.ireturn, 1) := by decide +kernel
set_option maxRecDepth 20000 in
theorem ggX9_elected_X6_head : GoodIn wsX9_elected wsX6_head := goodIn_r _ [6, 7, 16, 17, 18, 19, 20, 21, 22, 23, 24, 25] (by decide +kernel) (by decide +kernel)
set_option maxRecDepth 20000 in
theorem gX9_elected_X6_head : GoodIn wsX9_elected (wsV RX9 136 RX6 yX6_head wsX6_head) := goodIn_app (goodIn_of _ (by decide +kernel)) ggX9_elected_X6_head
theorem dX9_elected_0 : decode cX9_elected 0 = .ok (.aload_n 0, 1) := by decide +kernel
theorem dX9_elected_1 : decode cX9_elected 1 = .ok (.getfield 51, 3) := by decide +kernel
theorem dX9_elected_4 : decode cX9_elected 4 = .ok (.invokevirtual 136, 3) := by decide +kernel
theorem dX9_elected_7 : decode cX9_elected 7 = .ok (.ireturn, 1) := by decide +kernel
set_option maxRecDepth 20000 in
theorem ggX9_chances_X2_reckon : GoodIn wsX9_chances wsX2_reckon := goodIn_r _ [6, 7, 8, 9, 10, 11, 12, 13, 14, 15, 16, 17, 18, 19, 20, 21, 22, 23, 24, 25, 26, 27, 28, 29, 30, 31, 32, 33, 34, 5, 35, 36, 37, 38, 39, 40, 41, 42, 43, 44, 45, 46, 47, 48, 49, 50, 51, 52, 53, 54, 55, 56, 57, 58, 59, 60, 61, 62, 63, 64, 65, 66, 67, 68, 69, 70, 71, 72, 73, 74, 75, 76, 77, 78, 79, 80, 81, 82, 83, 84, 85, 86, 87, 88, 89, 90, 91, 92, 93, 94, 95, 96, 97, 98, 99, 100, 101, 102, 103, 104, 105, 106, 107, 108, 109, 110, 111, 112, 113, 114, 115, 116, 117, 118, 119, 120, 121, 122, 123, 124, 125, 126, 127, 128, 129, 130, 131, 132, 133, 134, 135, 136, 137, 138, 139, 140, 141, 142, 143, 144, 145, 146, 147, 148, 149, 150, 151, 152, 153, 154, 155, 156, 157, 158, 159, 160, 161, 162, 163, 164, 165, 166, 167, 168, 169, 170, 171, 172, 173, 174, 175, 176, 177, 178, 179, 180, 181, 182, 183, 184, 185, 186, 187, 188, 189, 190, 191, 192, 193, 194, 195, 196, 197, 198, 199, 200, 201, 202, 203, 204, 205, 206, 215, 216, 217, 218, 219, 220, 221, 222, 223, 224, 225, 226, 227, 228, 229, 230, 231, 232, 233, 234, 235, 236, 237, 238, 239, 240, 241, 242, 243, 244, 245, 246, 247, 248, 249, 250, 251, 252, 253, 254, 255, 256] (by decide +kernel) (by decide +kernel)
set_option maxRecDepth 20000 in
theorem gX9_chances_X2_reckon : GoodIn wsX9_chances (wsV RX9 139 RX2 yX2_reckon wsX2_reckon) := goodIn_app (goodIn_of _ (by decide +kernel)) ggX9_chances_X2_reckon
theorem dX9_chances_0 : decode cX9_chances 0 = .ok (.aload_n 0, 1) := by decide +kernel
theorem dX9_chances_1 : decode cX9_chances 1 = .ok (.getfield 60, 3) := by decide +kernel
theorem dX9_chances_4 : decode cX9_chances 4 = .ok (.invokevirtual 139, 3) := by decide +kernel
theorem dX9_chances_7 : decode cX9_chances 7 = .ok (.ireturn, 1) := by decide +kernel
set_option maxRecDepth 20000 in
theorem ggX9_ways_X2_answer : GoodIn wsX9_ways wsX2_answer := goodIn_r _ [6, 7, 8, 9, 18, 19, 20, 21, 22, 23, 24, 25, 26, 27, 28, 29, 30, 31, 32, 33] (by decide +kernel) (by decide +kernel)
set_option maxRecDepth 20000 in
theorem gX9_ways_X2_answer : GoodIn wsX9_ways (wsV RX9 142 RX2 yX2_answer wsX2_answer) := goodIn_app (goodIn_of _ (by decide +kernel)) ggX9_ways_X2_answer
theorem dX9_ways_0 : decode cX9_ways 0 = .ok (.aload_n 0, 1) := by decide +kernel
theorem dX9_ways_1 : decode cX9_ways 1 = .ok (.getfield 60, 3) := by decide +kernel
theorem dX9_ways_4 : decode cX9_ways 4 = .ok (.iload_n 1, 1) := by decide +kernel
theorem dX9_ways_5 : decode cX9_ways 5 = .ok (.invokevirtual 142, 3) := by decide +kernel
theorem dX9_ways_8 : decode cX9_ways 8 = .ok (.lreturn, 1) := by decide +kernel
set_option maxRecDepth 20000 in
theorem ggX9_about_X0_has : GoodIn wsX9_about wsX0_has := goodIn_r _ [6, 7, 45, 46, 47, 48, 49, 50, 51] (by decide +kernel) (by decide +kernel)
set_option maxRecDepth 20000 in
theorem gX9_about_X0_has : GoodIn wsX9_about (wsV RX9 145 RX0 yX0_has wsX0_has) := goodIn_app (goodIn_of _ (by decide +kernel)) ggX9_about_X0_has
set_option maxRecDepth 20000 in
theorem ggX9_about_X0_houseOf : GoodIn wsX9_about wsX0_houseOf := goodIn_r _ [11, 12, 13, 3, 4, 5, 6, 7, 45, 46, 47, 48, 49, 50, 51] (by decide +kernel) (by decide +kernel)
set_option maxRecDepth 20000 in
theorem gX9_about_X0_houseOf : GoodIn wsX9_about (wsV RX9 148 RX0 yX0_houseOf wsX0_houseOf) := goodIn_app (goodIn_of _ (by decide +kernel)) ggX9_about_X0_houseOf
set_option maxRecDepth 20000 in
theorem ggX9_about_X0_partyOf : GoodIn wsX9_about wsX0_partyOf := goodIn_r _ [17, 18, 13, 3, 4, 5, 6, 7, 45, 46, 47, 48, 49, 50, 51] (by decide +kernel) (by decide +kernel)
set_option maxRecDepth 20000 in
theorem gX9_about_X0_partyOf : GoodIn wsX9_about (wsV RX9 151 RX0 yX0_partyOf wsX0_partyOf) := goodIn_app (goodIn_of _ (by decide +kernel)) ggX9_about_X0_partyOf
set_option maxRecDepth 20000 in
theorem ggX9_about_X0_isThere : GoodIn wsX9_about wsX0_isThere := goodIn_r _ [22, 23, 13, 3, 4, 5, 6, 7, 45, 46, 47, 48, 49, 50, 51] (by decide +kernel) (by decide +kernel)
set_option maxRecDepth 20000 in
theorem gX9_about_X0_isThere : GoodIn wsX9_about (wsV RX9 154 RX0 yX0_isThere wsX0_isThere) := goodIn_app (goodIn_of _ (by decide +kernel)) ggX9_about_X0_isThere
set_option maxRecDepth 20000 in
theorem ggX9_about_X0_kinOf : GoodIn wsX9_about wsX0_kinOf := goodIn_r _ [27, 7, 28, 29, 30, 5, 31, 12, 13, 3, 4, 6, 32, 33, 34, 35, 36, 45, 46, 47, 48, 49, 50, 51] (by decide +kernel) (by decide +kernel)
set_option maxRecDepth 20000 in
theorem gX9_about_X0_kinOf : GoodIn wsX9_about (wsV RX9 157 RX0 yX0_kinOf wsX0_kinOf) := goodIn_app (goodIn_of _ (by decide +kernel)) ggX9_about_X0_kinOf
theorem dX9_about_0 : decode cX9_about 0 = .ok (.aload_n 0, 1) := by decide +kernel
theorem dX9_about_1 : decode cX9_about 1 = .ok (.getfield 12, 3) := by decide +kernel
theorem dX9_about_4 : decode cX9_about 4 = .ok (.iload_n 1, 1) := by decide +kernel
theorem dX9_about_5 : decode cX9_about 5 = .ok (.invokevirtual 145, 3) := by decide +kernel
theorem dX9_about_8 : decode cX9_about 8 = .ok (.ifCond .ne 5, 3) := by decide +kernel
theorem dX9_about_11 : decode cX9_about 11 = .ok (.iconst (-1), 1) := by decide +kernel
theorem dX9_about_12 : decode cX9_about 12 = .ok (.ireturn, 1) := by decide +kernel
theorem dX9_about_13 : decode cX9_about 13 = .ok (.iload_n 2, 1) := by decide +kernel
theorem dX9_about_14 : decode cX9_about 14 = .ok (.tableswitch 74 0 3 #[30, 39, 48, 65], 30) := by decide +kernel
theorem dX9_about_44 : decode cX9_about 44 = .ok (.aload_n 0, 1) := by decide +kernel
theorem dX9_about_45 : decode cX9_about 45 = .ok (.getfield 12, 3) := by decide +kernel
theorem dX9_about_48 : decode cX9_about 48 = .ok (.iload_n 1, 1) := by decide +kernel
theorem dX9_about_49 : decode cX9_about 49 = .ok (.invokevirtual 148, 3) := by decide +kernel
theorem dX9_about_52 : decode cX9_about 52 = .ok (.ireturn, 1) := by decide +kernel
theorem dX9_about_53 : decode cX9_about 53 = .ok (.aload_n 0, 1) := by decide +kernel
theorem dX9_about_54 : decode cX9_about 54 = .ok (.getfield 12, 3) := by decide +kernel
theorem dX9_about_57 : decode cX9_about 57 = .ok (.iload_n 1, 1) := by decide +kernel
theorem dX9_about_58 : decode cX9_about 58 = .ok (.invokevirtual 151, 3) := by decide +kernel
theorem dX9_about_61 : decode cX9_about 61 = .ok (.ireturn, 1) := by decide +kernel
theorem dX9_about_62 : decode cX9_about 62 = .ok (.aload_n 0, 1) := by decide +kernel
theorem dX9_about_63 : decode cX9_about 63 = .ok (.getfield 12, 3) := by decide +kernel
theorem dX9_about_66 : decode cX9_about 66 = .ok (.iload_n 1, 1) := by decide +kernel
theorem dX9_about_67 : decode cX9_about 67 = .ok (.invokevirtual 154, 3) := by decide +kernel
theorem dX9_about_70 : decode cX9_about 70 = .ok (.ifCond .eq 7, 3) := by decide +kernel
theorem dX9_about_73 : decode cX9_about 73 = .ok (.iconst 1, 1) := by decide +kernel
theorem dX9_about_74 : decode cX9_about 74 = .ok (.goto 4, 3) := by decide +kernel
theorem dX9_about_77 : decode cX9_about 77 = .ok (.iconst 0, 1) := by decide +kernel
theorem dX9_about_78 : decode cX9_about 78 = .ok (.ireturn, 1) := by decide +kernel
theorem dX9_about_79 : decode cX9_about 79 = .ok (.aload_n 0, 1) := by decide +kernel
theorem dX9_about_80 : decode cX9_about 80 = .ok (.getfield 12, 3) := by decide +kernel
theorem dX9_about_83 : decode cX9_about 83 = .ok (.iload_n 1, 1) := by decide +kernel
theorem dX9_about_84 : decode cX9_about 84 = .ok (.invokevirtual 157, 3) := by decide +kernel
theorem dX9_about_87 : decode cX9_about 87 = .ok (.ireturn, 1) := by decide +kernel
theorem dX9_about_88 : decode cX9_about 88 = .ok (.iconst (-1), 1) := by decide +kernel
theorem dX9_about_89 : decode cX9_about 89 = .ok (.ireturn, 1) := by decide +kernel
set_option maxRecDepth 20000 in
theorem ggX9_count_X0_size : GoodIn wsX9_count wsX0_size := goodIn_r _ [9, 10, 84, 85, 86, 87, 88, 89, 90] (by decide +kernel) (by decide +kernel)
set_option maxRecDepth 20000 in
theorem gX9_count_X0_size : GoodIn wsX9_count (wsV RX9 160 RX0 yX0_size wsX0_size) := goodIn_app (goodIn_of _ (by decide +kernel)) ggX9_count_X0_size
set_option maxRecDepth 20000 in
theorem ggX9_count_X0_sizeThere : GoodIn wsX9_count wsX0_sizeThere := goodIn_r _ [14, 10, 15, 16, 17, 8, 18, 19, 20, 21, 22, 23, 84, 85, 86, 87, 88, 89, 90] (by decide +kernel) (by decide +kernel)
set_option maxRecDepth 20000 in
theorem gX9_count_X0_sizeThere : GoodIn wsX9_count (wsV RX9 163 RX0 yX0_sizeThere wsX0_sizeThere) := goodIn_app (goodIn_of _ (by decide +kernel)) ggX9_count_X0_sizeThere
set_option maxRecDepth 20000 in
theorem ggX9_count_X0_pairsTold : GoodIn wsX9_count wsX0_pairsTold := goodIn_r _ [27, 28, 84, 85, 86, 87, 88, 89, 90] (by decide +kernel) (by decide +kernel)
set_option maxRecDepth 20000 in
theorem gX9_count_X0_pairsTold : GoodIn wsX9_count (wsV RX9 166 RX0 yX0_pairsTold wsX0_pairsTold) := goodIn_app (goodIn_of _ (by decide +kernel)) ggX9_count_X0_pairsTold
set_option maxRecDepth 20000 in
theorem ggX9_count_X6_stepsInAll : GoodIn wsX9_count wsX6_stepsInAll := goodIn_r _ [33, 34, 35, 36, 37, 38, 39, 40, 91, 92, 93, 94, 95, 96, 97, 98, 99, 100, 101, 102, 103, 104, 105] (by decide +kernel) (by decide +kernel)
set_option maxRecDepth 20000 in
theorem gX9_count_X6_stepsInAll : GoodIn wsX9_count (wsV RX9 117 RX6 yX6_stepsInAll wsX6_stepsInAll) := goodIn_app (goodIn_of _ (by decide +kernel)) ggX9_count_X6_stepsInAll
set_option maxRecDepth 20000 in
theorem ggX9_count_X6_stepsDone : GoodIn wsX9_count wsX6_stepsDone := goodIn_r _ [44, 45, 91, 92, 93, 94, 95, 96, 97, 98, 99, 100] (by decide +kernel) (by decide +kernel)
set_option maxRecDepth 20000 in
theorem gX9_count_X6_stepsDone : GoodIn wsX9_count (wsV RX9 71 RX6 yX6_stepsDone wsX6_stepsDone) := goodIn_app (goodIn_of _ (by decide +kernel)) ggX9_count_X6_stepsDone
set_option maxRecDepth 20000 in
theorem ggX9_count_X6_bodySize : GoodIn wsX9_count wsX6_bodySize := goodIn_r _ [49, 45, 50, 51, 52, 53, 32, 54, 55, 56, 57, 6, 7, 8, 9, 10, 58, 16, 17, 18, 19, 20, 21, 22, 23, 91, 92, 93, 94, 95, 96, 97, 98, 99, 100, 84, 85, 86, 87, 88, 89, 90] (by decide +kernel) (by decide +kernel)
set_option maxRecDepth 20000 in
theorem gX9_count_X6_bodySize : GoodIn wsX9_count (wsV RX9 169 RX6 yX6_bodySize wsX6_bodySize) := goodIn_app (goodIn_of _ (by decide +kernel)) ggX9_count_X6_bodySize
set_option maxRecDepth 20000 in
theorem ggX9_count_X1_waiting : GoodIn wsX9_count wsX1_waiting := goodIn_r _ [63, 64, 106, 107, 108, 109] (by decide +kernel) (by decide +kernel)
set_option maxRecDepth 20000 in
theorem gX9_count_X1_waiting : GoodIn wsX9_count (wsV RX9 172 RX1 yX1_waiting wsX1_waiting) := goodIn_app (goodIn_of _ (by decide +kernel)) ggX9_count_X1_waiting
set_option maxRecDepth 20000 in
theorem ggX9_count_X1_usedInAll : GoodIn wsX9_count wsX1_usedInAll := goodIn_r _ [68, 69, 106, 107, 108, 109] (by decide +kernel) (by decide +kernel)
set_option maxRecDepth 20000 in
theorem gX9_count_X1_usedInAll : GoodIn wsX9_count (wsV RX9 175 RX1 yX1_usedInAll wsX1_usedInAll) := goodIn_app (goodIn_of _ (by decide +kernel)) ggX9_count_X1_usedInAll
set_option maxRecDepth 20000 in
theorem ggX9_count_X8_length : GoodIn wsX9_count wsX8_length := goodIn_r _ [74, 75, 110, 111] (by decide +kernel) (by decide +kernel)
set_option maxRecDepth 20000 in
theorem gX9_count_X8_length : GoodIn wsX9_count (wsV RX9 103 RX8 yX8_length wsX8_length) := goodIn_app (goodIn_of _ (by decide +kernel)) ggX9_count_X8_length
theorem dX9_count_0 : decode cX9_count 0 = .ok (.iload_n 1, 1) := by decide +kernel
theorem dX9_count_1 : decode cX9_count 1 = .ok (.tableswitch 123 0 8 #[51, 59, 67, 75, 83, 91, 99, 107, 115], 51) := by decide +kernel
theorem dX9_count_52 : decode cX9_count 52 = .ok (.aload_n 0, 1) := by decide +kernel
theorem dX9_count_53 : decode cX9_count 53 = .ok (.getfield 12, 3) := by decide +kernel
theorem dX9_count_56 : decode cX9_count 56 = .ok (.invokevirtual 160, 3) := by decide +kernel
theorem dX9_count_59 : decode cX9_count 59 = .ok (.ireturn, 1) := by decide +kernel
theorem dX9_count_60 : decode cX9_count 60 = .ok (.aload_n 0, 1) := by decide +kernel
theorem dX9_count_61 : decode cX9_count 61 = .ok (.getfield 12, 3) := by decide +kernel
theorem dX9_count_64 : decode cX9_count 64 = .ok (.invokevirtual 163, 3) := by decide +kernel
theorem dX9_count_67 : decode cX9_count 67 = .ok (.ireturn, 1) := by decide +kernel
theorem dX9_count_68 : decode cX9_count 68 = .ok (.aload_n 0, 1) := by decide +kernel
theorem dX9_count_69 : decode cX9_count 69 = .ok (.getfield 12, 3) := by decide +kernel
theorem dX9_count_72 : decode cX9_count 72 = .ok (.invokevirtual 166, 3) := by decide +kernel
theorem dX9_count_75 : decode cX9_count 75 = .ok (.ireturn, 1) := by decide +kernel
theorem dX9_count_76 : decode cX9_count 76 = .ok (.aload_n 0, 1) := by decide +kernel
theorem dX9_count_77 : decode cX9_count 77 = .ok (.getfield 51, 3) := by decide +kernel
theorem dX9_count_80 : decode cX9_count 80 = .ok (.invokevirtual 117, 3) := by decide +kernel
theorem dX9_count_83 : decode cX9_count 83 = .ok (.ireturn, 1) := by decide +kernel
theorem dX9_count_84 : decode cX9_count 84 = .ok (.aload_n 0, 1) := by decide +kernel
theorem dX9_count_85 : decode cX9_count 85 = .ok (.getfield 51, 3) := by decide +kernel
theorem dX9_count_88 : decode cX9_count 88 = .ok (.invokevirtual 71, 3) := by decide +kernel
theorem dX9_count_91 : decode cX9_count 91 = .ok (.ireturn, 1) := by decide +kernel
theorem dX9_count_92 : decode cX9_count 92 = .ok (.aload_n 0, 1) := by decide +kernel
theorem dX9_count_93 : decode cX9_count 93 = .ok (.getfield 51, 3) := by decide +kernel
theorem dX9_count_96 : decode cX9_count 96 = .ok (.invokevirtual 169, 3) := by decide +kernel
theorem dX9_count_99 : decode cX9_count 99 = .ok (.ireturn, 1) := by decide +kernel
theorem dX9_count_100 : decode cX9_count 100 = .ok (.aload_n 0, 1) := by decide +kernel
theorem dX9_count_101 : decode cX9_count 101 = .ok (.getfield 35, 3) := by decide +kernel
theorem dX9_count_104 : decode cX9_count 104 = .ok (.invokevirtual 172, 3) := by decide +kernel
theorem dX9_count_107 : decode cX9_count 107 = .ok (.ireturn, 1) := by decide +kernel
theorem dX9_count_108 : decode cX9_count 108 = .ok (.aload_n 0, 1) := by decide +kernel
theorem dX9_count_109 : decode cX9_count 109 = .ok (.getfield 35, 3) := by decide +kernel
theorem dX9_count_112 : decode cX9_count 112 = .ok (.invokevirtual 175, 3) := by decide +kernel
theorem dX9_count_115 : decode cX9_count 115 = .ok (.ireturn, 1) := by decide +kernel
theorem dX9_count_116 : decode cX9_count 116 = .ok (.aload_n 0, 1) := by decide +kernel
theorem dX9_count_117 : decode cX9_count 117 = .ok (.getfield 19, 3) := by decide +kernel
theorem dX9_count_120 : decode cX9_count 120 = .ok (.invokevirtual 103, 3) := by decide +kernel
theorem dX9_count_123 : decode cX9_count 123 = .ok (.ireturn, 1) := by decide +kernel
theorem dX9_count_124 : decode cX9_count 124 = .ok (.iconst (-1), 1) := by decide +kernel
theorem dX9_count_125 : decode cX9_count 125 = .ok (.ireturn, 1) := by decide +kernel
theorem dX10_init_0 : decode cX10_init 0 = .ok (.aload_n 0, 1) := by decide +kernel
theorem dX10_init_1 : decode cX10_init 1 = .ok (.invokespecial 1, 3) := by decide +kernel
theorem dX10_init_4 : decode cX10_init 4 = .ok (.aload_n 0, 1) := by decide +kernel
theorem dX10_init_5 : decode cX10_init 5 = .ok (.bipush 40, 2) := by decide +kernel
theorem dX10_init_7 : decode cX10_init 7 = .ok (.newarray .int, 2) := by decide +kernel
theorem dX10_init_9 : decode cX10_init 9 = .ok (.putfield 7, 3) := by decide +kernel
theorem dX10_init_12 : decode cX10_init 12 = .ok (.aload_n 0, 1) := by decide +kernel
theorem dX10_init_13 : decode cX10_init 13 = .ok (.bipush 40, 2) := by decide +kernel
theorem dX10_init_15 : decode cX10_init 15 = .ok (.newarray .int, 2) := by decide +kernel
theorem dX10_init_17 : decode cX10_init 17 = .ok (.putfield 13, 3) := by decide +kernel
theorem dX10_init_20 : decode cX10_init 20 = .ok (.aload_n 0, 1) := by decide +kernel
theorem dX10_init_21 : decode cX10_init 21 = .ok (.bipush 40, 2) := by decide +kernel
theorem dX10_init_23 : decode cX10_init 23 = .ok (.newarray .boolean, 2) := by decide +kernel
theorem dX10_init_25 : decode cX10_init 25 = .ok (.putfield 16, 3) := by decide +kernel
theorem dX10_init_28 : decode cX10_init 28 = .ok (.aload_n 0, 1) := by decide +kernel
theorem dX10_init_29 : decode cX10_init 29 = .ok (.sipush 1600, 3) := by decide +kernel
theorem dX10_init_32 : decode cX10_init 32 = .ok (.newarray .boolean, 2) := by decide +kernel
theorem dX10_init_34 : decode cX10_init 34 = .ok (.putfield 20, 3) := by decide +kernel
theorem dX10_init_37 : decode cX10_init 37 = .ok (.aload_n 0, 1) := by decide +kernel
theorem dX10_init_38 : decode cX10_init 38 = .ok (.bipush 16, 2) := by decide +kernel
theorem dX10_init_40 : decode cX10_init 40 = .ok (.newarray .boolean, 2) := by decide +kernel
theorem dX10_init_42 : decode cX10_init 42 = .ok (.dup, 1) := by decide +kernel
theorem dX10_init_43 : decode cX10_init 43 = .ok (.iconst 0, 1) := by decide +kernel
theorem dX10_init_44 : decode cX10_init 44 = .ok (.iconst 1, 1) := by decide +kernel
theorem dX10_init_45 : decode cX10_init 45 = .ok (.bastore, 1) := by decide +kernel
theorem dX10_init_46 : decode cX10_init 46 = .ok (.dup, 1) := by decide +kernel
theorem dX10_init_47 : decode cX10_init 47 = .ok (.iconst 1, 1) := by decide +kernel
theorem dX10_init_48 : decode cX10_init 48 = .ok (.iconst 0, 1) := by decide +kernel
theorem dX10_init_49 : decode cX10_init 49 = .ok (.bastore, 1) := by decide +kernel
theorem dX10_init_50 : decode cX10_init 50 = .ok (.dup, 1) := by decide +kernel
theorem dX10_init_51 : decode cX10_init 51 = .ok (.iconst 2, 1) := by decide +kernel
theorem dX10_init_52 : decode cX10_init 52 = .ok (.iconst 0, 1) := by decide +kernel
theorem dX10_init_53 : decode cX10_init 53 = .ok (.bastore, 1) := by decide +kernel
theorem dX10_init_54 : decode cX10_init 54 = .ok (.dup, 1) := by decide +kernel
theorem dX10_init_55 : decode cX10_init 55 = .ok (.iconst 3, 1) := by decide +kernel
theorem dX10_init_56 : decode cX10_init 56 = .ok (.iconst 0, 1) := by decide +kernel
theorem dX10_init_57 : decode cX10_init 57 = .ok (.bastore, 1) := by decide +kernel
theorem dX10_init_58 : decode cX10_init 58 = .ok (.dup, 1) := by decide +kernel
theorem dX10_init_59 : decode cX10_init 59 = .ok (.iconst 4, 1) := by decide +kernel
theorem dX10_init_60 : decode cX10_init 60 = .ok (.iconst 0, 1) := by decide +kernel
theorem dX10_init_61 : decode cX10_init 61 = .ok (.bastore, 1) := by decide +kernel
theorem dX10_init_62 : decode cX10_init 62 = .ok (.dup, 1) := by decide +kernel
theorem dX10_init_63 : decode cX10_init 63 = .ok (.iconst 5, 1) := by decide +kernel
theorem dX10_init_64 : decode cX10_init 64 = .ok (.iconst 1, 1) := by decide +kernel
theorem dX10_init_65 : decode cX10_init 65 = .ok (.bastore, 1) := by decide +kernel
theorem dX10_init_66 : decode cX10_init 66 = .ok (.dup, 1) := by decide +kernel
theorem dX10_init_67 : decode cX10_init 67 = .ok (.bipush 6, 2) := by decide +kernel
theorem dX10_init_69 : decode cX10_init 69 = .ok (.iconst 0, 1) := by decide +kernel
theorem dX10_init_70 : decode cX10_init 70 = .ok (.bastore, 1) := by decide +kernel
theorem dX10_init_71 : decode cX10_init 71 = .ok (.dup, 1) := by decide +kernel
theorem dX10_init_72 : decode cX10_init 72 = .ok (.bipush 7, 2) := by decide +kernel
theorem dX10_init_74 : decode cX10_init 74 = .ok (.iconst 0, 1) := by decide +kernel
theorem dX10_init_75 : decode cX10_init 75 = .ok (.bastore, 1) := by decide +kernel
theorem dX10_init_76 : decode cX10_init 76 = .ok (.dup, 1) := by decide +kernel
theorem dX10_init_77 : decode cX10_init 77 = .ok (.bipush 8, 2) := by decide +kernel
theorem dX10_init_79 : decode cX10_init 79 = .ok (.iconst 0, 1) := by decide +kernel
theorem dX10_init_80 : decode cX10_init 80 = .ok (.bastore, 1) := by decide +kernel
theorem dX10_init_81 : decode cX10_init 81 = .ok (.dup, 1) := by decide +kernel
theorem dX10_init_82 : decode cX10_init 82 = .ok (.bipush 9, 2) := by decide +kernel
theorem dX10_init_84 : decode cX10_init 84 = .ok (.iconst 0, 1) := by decide +kernel
theorem dX10_init_85 : decode cX10_init 85 = .ok (.bastore, 1) := by decide +kernel
theorem dX10_init_86 : decode cX10_init 86 = .ok (.dup, 1) := by decide +kernel
theorem dX10_init_87 : decode cX10_init 87 = .ok (.bipush 10, 2) := by decide +kernel
theorem dX10_init_89 : decode cX10_init 89 = .ok (.iconst 1, 1) := by decide +kernel
theorem dX10_init_90 : decode cX10_init 90 = .ok (.bastore, 1) := by decide +kernel
theorem dX10_init_91 : decode cX10_init 91 = .ok (.dup, 1) := by decide +kernel
theorem dX10_init_92 : decode cX10_init 92 = .ok (.bipush 11, 2) := by decide +kernel
theorem dX10_init_94 : decode cX10_init 94 = .ok (.iconst 0, 1) := by decide +kernel
theorem dX10_init_95 : decode cX10_init 95 = .ok (.bastore, 1) := by decide +kernel
theorem dX10_init_96 : decode cX10_init 96 = .ok (.dup, 1) := by decide +kernel
theorem dX10_init_97 : decode cX10_init 97 = .ok (.bipush 12, 2) := by decide +kernel
theorem dX10_init_99 : decode cX10_init 99 = .ok (.iconst 0, 1) := by decide +kernel
theorem dX10_init_100 : decode cX10_init 100 = .ok (.bastore, 1) := by decide +kernel
theorem dX10_init_101 : decode cX10_init 101 = .ok (.dup, 1) := by decide +kernel
theorem dX10_init_102 : decode cX10_init 102 = .ok (.bipush 13, 2) := by decide +kernel
theorem dX10_init_104 : decode cX10_init 104 = .ok (.iconst 0, 1) := by decide +kernel
theorem dX10_init_105 : decode cX10_init 105 = .ok (.bastore, 1) := by decide +kernel
theorem dX10_init_106 : decode cX10_init 106 = .ok (.dup, 1) := by decide +kernel
theorem dX10_init_107 : decode cX10_init 107 = .ok (.bipush 14, 2) := by decide +kernel
theorem dX10_init_109 : decode cX10_init 109 = .ok (.iconst 0, 1) := by decide +kernel
theorem dX10_init_110 : decode cX10_init 110 = .ok (.bastore, 1) := by decide +kernel
theorem dX10_init_111 : decode cX10_init 111 = .ok (.dup, 1) := by decide +kernel
theorem dX10_init_112 : decode cX10_init 112 = .ok (.bipush 15, 2) := by decide +kernel
theorem dX10_init_114 : decode cX10_init 114 = .ok (.iconst 1, 1) := by decide +kernel
theorem dX10_init_115 : decode cX10_init 115 = .ok (.bastore, 1) := by decide +kernel
theorem dX10_init_116 : decode cX10_init 116 = .ok (.putfield 23, 3) := by decide +kernel
theorem dX10_init_119 : decode cX10_init 119 = .ok (.aload_n 0, 1) := by decide +kernel
theorem dX10_init_120 : decode cX10_init 120 = .ok (.sipush 300, 3) := by decide +kernel
theorem dX10_init_123 : decode cX10_init 123 = .ok (.newarray .byte, 2) := by decide +kernel
theorem dX10_init_125 : decode cX10_init 125 = .ok (.putfield 26, 3) := by decide +kernel
theorem dX10_init_128 : decode cX10_init 128 = .ok (.aload_n 0, 1) := by decide +kernel
theorem dX10_init_129 : decode cX10_init 129 = .ok (.bipush 12, 2) := by decide +kernel
theorem dX10_init_131 : decode cX10_init 131 = .ok (.newarray .int, 2) := by decide +kernel
theorem dX10_init_133 : decode cX10_init 133 = .ok (.putfield 30, 3) := by decide +kernel
theorem dX10_init_136 : decode cX10_init 136 = .ok (.aload_n 0, 1) := by decide +kernel
theorem dX10_init_137 : decode cX10_init 137 = .ok (.bipush 12, 2) := by decide +kernel
theorem dX10_init_139 : decode cX10_init 139 = .ok (.newarray .int, 2) := by decide +kernel
theorem dX10_init_141 : decode cX10_init 141 = .ok (.putfield 33, 3) := by decide +kernel
