theorem dX6_doNext_0 : decode cX6_doNext 0 = .ok (.aload_n 0, 1) := by decide +kernel
theorem dX6_doNext_1 : decode cX6_doNext 1 = .ok (.getfield 49, 3) := by decide +kernel
theorem dX6_doNext_4 : decode cX6_doNext 4 = .ok (.aload_n 0, 1) := by decide +kernel
theorem dX6_doNext_5 : decode cX6_doNext 5 = .ok (.getfield 29, 3) := by decide +kernel
theorem dX6_doNext_8 : decode cX6_doNext 8 = .ok (.invokevirtual 52, 3) := by decide +kernel
theorem dX6_doNext_11 : decode cX6_doNext 11 = .ok (.if_icmp .ge 12, 3) := by decide +kernel
theorem dX6_doNext_14 : decode cX6_doNext 14 = .ok (.aload_n 0, 1) := by decide +kernel
theorem dX6_doNext_15 : decode cX6_doNext 15 = .ok (.getfield 49, 3) := by decide +kernel
theorem dX6_doNext_18 : decode cX6_doNext 18 = .ok (.bipush 12, 2) := by decide +kernel
theorem dX6_doNext_20 : decode cX6_doNext 20 = .ok (.if_icmp .lt 5, 3) := by decide +kernel
theorem dX6_doNext_23 : decode cX6_doNext 23 = .ok (.iconst 3, 1) := by decide +kernel
theorem dX6_doNext_24 : decode cX6_doNext 24 = .ok (.ireturn, 1) := by decide +kernel
theorem dX6_doNext_25 : decode cX6_doNext 25 = .ok (.aload_n 0, 1) := by decide +kernel
theorem dX6_doNext_26 : decode cX6_doNext 26 = .ok (.getfield 29, 3) := by decide +kernel
theorem dX6_doNext_29 : decode cX6_doNext 29 = .ok (.aload_n 0, 1) := by decide +kernel
theorem dX6_doNext_30 : decode cX6_doNext 30 = .ok (.getfield 49, 3) := by decide +kernel
theorem dX6_doNext_33 : decode cX6_doNext 33 = .ok (.invokevirtual 71, 3) := by decide +kernel
theorem dX6_doNext_36 : decode cX6_doNext 36 = .ok (.lookupswitch 49 #[(1, 28), (2, 44)], 28) := by decide +kernel
theorem dX6_doNext_64 : decode cX6_doNext 64 = .ok (.aload_n 0, 1) := by decide +kernel
theorem dX6_doNext_65 : decode cX6_doNext 65 = .ok (.aload_n 0, 1) := by decide +kernel
theorem dX6_doNext_66 : decode cX6_doNext 66 = .ok (.getfield 29, 3) := by decide +kernel
theorem dX6_doNext_69 : decode cX6_doNext 69 = .ok (.aload_n 0, 1) := by decide +kernel
theorem dX6_doNext_70 : decode cX6_doNext 70 = .ok (.getfield 49, 3) := by decide +kernel
theorem dX6_doNext_73 : decode cX6_doNext 73 = .ok (.invokevirtual 75, 3) := by decide +kernel
theorem dX6_doNext_76 : decode cX6_doNext 76 = .ok (.invokevirtual 78, 3) := by decide +kernel
theorem dX6_doNext_79 : decode cX6_doNext 79 = .ok (.ireturn, 1) := by decide +kernel
theorem dX6_doNext_80 : decode cX6_doNext 80 = .ok (.aload_n 0, 1) := by decide +kernel
theorem dX6_doNext_81 : decode cX6_doNext 81 = .ok (.invokevirtual 81, 3) := by decide +kernel
theorem dX6_doNext_84 : decode cX6_doNext 84 = .ok (.ireturn, 1) := by decide +kernel
theorem dX6_doNext_85 : decode cX6_doNext 85 = .ok (.aload_n 0, 1) := by decide +kernel
theorem dX6_doNext_86 : decode cX6_doNext 86 = .ok (.invokevirtual 84, 3) := by decide +kernel
theorem dX6_doNext_89 : decode cX6_doNext 89 = .ok (.ireturn, 1) := by decide +kernel
set_option maxRecDepth 20000 in
theorem ggX6_draw_X6_bodySize : GoodIn wsX6_draw wsX6_bodySize := goodIn_r _ [13, 2, 14, 15, 16, 17, 12, 18, 19, 1, 20, 21, 22, 23, 24, 25, 26, 27, 28, 29, 30, 31, 32, 33, 34, 68, 69, 70, 71, 72, 73, 74, 75, 76, 77, 78, 79, 80, 81, 82, 83, 84] (by decide +kernel) (by decide +kernel)
set_option maxRecDepth 20000 in
theorem gX6_draw_X6_bodySize : GoodIn wsX6_draw (wsV RX6 59 RX6 yX6_bodySize wsX6_bodySize) := goodIn_app (goodIn_of _ (by decide +kernel)) ggX6_draw_X6_bodySize
set_option maxRecDepth 20000 in
theorem ggX6_draw_X1_seekFair : GoodIn wsX6_draw wsX1_seekFair := goodIn_r _ [39, 40, 41, 42, 43, 44, 45, 46, 47, 38, 48, 49, 50, 85, 86, 87, 88] (by decide +kernel) (by decide +kernel)
set_option maxRecDepth 20000 in
theorem gX6_draw_X1_seekFair : GoodIn wsX6_draw (wsV RX6 93 RX1 yX1_seekFair wsX1_seekFair) := goodIn_app (goodIn_of _ (by decide +kernel)) ggX6_draw_X1_seekFair
set_option maxRecDepth 20000 in
theorem ggX6_draw_X1_pick : GoodIn wsX6_draw wsX1_pick := goodIn_r _ [54, 45, 46, 47, 38, 48, 44, 49, 50, 85, 86, 87, 88] (by decide +kernel) (by decide +kernel)
set_option maxRecDepth 20000 in
theorem gX6_draw_X1_pick : GoodIn wsX6_draw (wsV RX6 99 RX1 yX1_pick wsX1_pick) := goodIn_app (goodIn_of _ (by decide +kernel)) ggX6_draw_X1_pick
set_option maxRecDepth 20000 in
theorem ggX6_draw_X6_takeOut : GoodIn wsX6_draw wsX6_takeOut := goodIn_r _ [58, 3, 4, 5, 6, 7, 68, 69, 70, 71, 72, 73, 74, 75, 76, 77] (by decide +kernel) (by decide +kernel)
set_option maxRecDepth 20000 in
theorem gX6_draw_X6_takeOut : GoodIn wsX6_draw (wsV RX6 102 RX6 yX6_takeOut wsX6_takeOut) := goodIn_app (goodIn_of _ (by decide +kernel)) ggX6_draw_X6_takeOut
set_option maxRecDepth 20000 in
theorem ggX6_draw_X1_use : GoodIn wsX6_draw wsX1_use := goodIn_r _ [62, 44, 50, 63, 85, 86, 87, 88] (by decide +kernel) (by decide +kernel)
set_option maxRecDepth 20000 in
theorem gX6_draw_X1_use : GoodIn wsX6_draw (wsV RX6 105 RX1 yX1_use wsX1_use) := goodIn_app (goodIn_of _ (by decide +kernel)) ggX6_draw_X1_use
set_option maxRecDepth 20000 in
theorem ggX6_draw_X6_stand : GoodIn wsX6_draw wsX6_stand := goodIn_r _ [67, 2, 14, 68, 69, 70, 71, 72, 73, 74, 75, 76, 77] (by decide +kernel) (by decide +kernel)
set_option maxRecDepth 20000 in
theorem gX6_draw_X6_stand : GoodIn wsX6_draw (wsV RX6 109 RX6 yX6_stand wsX6_stand) := goodIn_app (goodIn_of _ (by decide +kernel)) ggX6_draw_X6_stand
theorem dX6_draw_0 : decode cX6_draw 0 = .ok (.aload_n 0, 1) := by decide +kernel
theorem dX6_draw_1 : decode cX6_draw 1 = .ok (.invokevirtual 59, 3) := by decide +kernel
theorem dX6_draw_4 : decode cX6_draw 4 = .ok (.istore_n 2, 1) := by decide +kernel
theorem dX6_draw_5 : decode cX6_draw 5 = .ok (.iload_n 2, 1) := by decide +kernel
theorem dX6_draw_6 : decode cX6_draw 6 = .ok (.iload_n 1, 1) := by decide +kernel
theorem dX6_draw_7 : decode cX6_draw 7 = .ok (.if_icmp .ge 5, 3) := by decide +kernel
theorem dX6_draw_10 : decode cX6_draw 10 = .ok (.iconst 2, 1) := by decide +kernel
theorem dX6_draw_11 : decode cX6_draw 11 = .ok (.ireturn, 1) := by decide +kernel
theorem dX6_draw_12 : decode cX6_draw 12 = .ok (.aload_n 0, 1) := by decide +kernel
theorem dX6_draw_13 : decode cX6_draw 13 = .ok (.getfield 11, 3) := by decide +kernel
theorem dX6_draw_16 : decode cX6_draw 16 = .ok (.aload_n 0, 1) := by decide +kernel
theorem dX6_draw_17 : decode cX6_draw 17 = .ok (.getfield 49, 3) := by decide +kernel
theorem dX6_draw_20 : decode cX6_draw 20 = .ok (.aaload, 1) := by decide +kernel
theorem dX6_draw_21 : decode cX6_draw 21 = .ok (.iconst 0, 1) := by decide +kernel
theorem dX6_draw_22 : decode cX6_draw 22 = .ok (.aload_n 0, 1) := by decide +kernel
theorem dX6_draw_23 : decode cX6_draw 23 = .ok (.getfield 20, 3) := by decide +kernel
theorem dX6_draw_26 : decode cX6_draw 26 = .ok (.iconst 0, 1) := by decide +kernel
theorem dX6_draw_27 : decode cX6_draw 27 = .ok (.iload_n 2, 1) := by decide +kernel
theorem dX6_draw_28 : decode cX6_draw 28 = .ok (.invokestatic 87, 3) := by decide +kernel
theorem dX6_draw_31 : decode cX6_draw 31 = .ok (.iconst 0, 1) := by decide +kernel
theorem dX6_draw_32 : decode cX6_draw 32 = .ok (.istore_n 3, 1) := by decide +kernel
theorem dX6_draw_33 : decode cX6_draw 33 = .ok (.iconst 0, 1) := by decide +kernel
theorem dX6_draw_34 : decode cX6_draw 34 = .ok (.istore 4, 2) := by decide +kernel
theorem dX6_draw_36 : decode cX6_draw 36 = .ok (.iload 4, 2) := by decide +kernel
theorem dX6_draw_38 : decode cX6_draw 38 = .ok (.iload_n 1, 1) := by decide +kernel
theorem dX6_draw_39 : decode cX6_draw 39 = .ok (.if_icmp .ge 71, 3) := by decide +kernel
theorem dX6_draw_42 : decode cX6_draw 42 = .ok (.iload_n 2, 1) := by decide +kernel
theorem dX6_draw_43 : decode cX6_draw 43 = .ok (.iload 4, 2) := by decide +kernel
theorem dX6_draw_45 : decode cX6_draw 45 = .ok (.isub, 1) := by decide +kernel
theorem dX6_draw_46 : decode cX6_draw 46 = .ok (.istore 5, 2) := by decide +kernel
theorem dX6_draw_48 : decode cX6_draw 48 = .ok (.aload_n 0, 1) := by decide +kernel
theorem dX6_draw_49 : decode cX6_draw 49 = .ok (.getfield 41, 3) := by decide +kernel
theorem dX6_draw_52 : decode cX6_draw 52 = .ok (.iload_n 3, 1) := by decide +kernel
theorem dX6_draw_53 : decode cX6_draw 53 = .ok (.iload 5, 2) := by decide +kernel
theorem dX6_draw_55 : decode cX6_draw 55 = .ok (.invokevirtual 93, 3) := by decide +kernel
theorem dX6_draw_58 : decode cX6_draw 58 = .ok (.istore 6, 2) := by decide +kernel
theorem dX6_draw_60 : decode cX6_draw 60 = .ok (.iload 6, 2) := by decide +kernel
theorem dX6_draw_62 : decode cX6_draw 62 = .ok (.iconst (-1), 1) := by decide +kernel
theorem dX6_draw_63 : decode cX6_draw 63 = .ok (.if_icmp .ne 5, 3) := by decide +kernel
theorem dX6_draw_66 : decode cX6_draw 66 = .ok (.iconst 1, 1) := by decide +kernel
theorem dX6_draw_67 : decode cX6_draw 67 = .ok (.ireturn, 1) := by decide +kernel
theorem dX6_draw_68 : decode cX6_draw 68 = .ok (.aload_n 0, 1) := by decide +kernel
theorem dX6_draw_69 : decode cX6_draw 69 = .ok (.getfield 11, 3) := by decide +kernel
theorem dX6_draw_72 : decode cX6_draw 72 = .ok (.aload_n 0, 1) := by decide +kernel
theorem dX6_draw_73 : decode cX6_draw 73 = .ok (.getfield 49, 3) := by decide +kernel
theorem dX6_draw_76 : decode cX6_draw 76 = .ok (.iconst 1, 1) := by decide +kernel
theorem dX6_draw_77 : decode cX6_draw 77 = .ok (.iadd, 1) := by decide +kernel
theorem dX6_draw_78 : decode cX6_draw 78 = .ok (.aaload, 1) := by decide +kernel
theorem dX6_draw_79 : decode cX6_draw 79 = .ok (.iload 4, 2) := by decide +kernel
theorem dX6_draw_81 : decode cX6_draw 81 = .ok (.aload_n 0, 1) := by decide +kernel
theorem dX6_draw_82 : decode cX6_draw 82 = .ok (.aload_n 0, 1) := by decide +kernel
theorem dX6_draw_83 : decode cX6_draw 83 = .ok (.getfield 41, 3) := by decide +kernel
theorem dX6_draw_86 : decode cX6_draw 86 = .ok (.iload 6, 2) := by decide +kernel
theorem dX6_draw_88 : decode cX6_draw 88 = .ok (.iload 5, 2) := by decide +kernel
theorem dX6_draw_90 : decode cX6_draw 90 = .ok (.invokevirtual 99, 3) := by decide +kernel
theorem dX6_draw_93 : decode cX6_draw 93 = .ok (.iload 5, 2) := by decide +kernel
theorem dX6_draw_95 : decode cX6_draw 95 = .ok (.invokevirtual 102, 3) := by decide +kernel
theorem dX6_draw_98 : decode cX6_draw 98 = .ok (.iastore, 1) := by decide +kernel
theorem dX6_draw_99 : decode cX6_draw 99 = .ok (.iload 6, 2) := by decide +kernel
theorem dX6_draw_101 : decode cX6_draw 101 = .ok (.iconst 1, 1) := by decide +kernel
theorem dX6_draw_102 : decode cX6_draw 102 = .ok (.iadd, 1) := by decide +kernel
theorem dX6_draw_103 : decode cX6_draw 103 = .ok (.istore_n 3, 1) := by decide +kernel
theorem dX6_draw_104 : decode cX6_draw 104 = .ok (.iinc 4 1, 3) := by decide +kernel
theorem dX6_draw_107 : decode cX6_draw 107 = .ok (.goto (-71), 3) := by decide +kernel
theorem dX6_draw_110 : decode cX6_draw 110 = .ok (.aload_n 0, 1) := by decide +kernel
theorem dX6_draw_111 : decode cX6_draw 111 = .ok (.getfield 41, 3) := by decide +kernel
theorem dX6_draw_114 : decode cX6_draw 114 = .ok (.iload_n 3, 1) := by decide +kernel
theorem dX6_draw_115 : decode cX6_draw 115 = .ok (.invokevirtual 105, 3) := by decide +kernel
theorem dX6_draw_118 : decode cX6_draw 118 = .ok (.aload_n 0, 1) := by decide +kernel
theorem dX6_draw_119 : decode cX6_draw 119 = .ok (.iload_n 1, 1) := by decide +kernel
theorem dX6_draw_120 : decode cX6_draw 120 = .ok (.invokevirtual 109, 3) := by decide +kernel
theorem dX6_draw_123 : decode cX6_draw 123 = .ok (.iconst 0, 1) := by decide +kernel
theorem dX6_draw_124 : decode cX6_draw 124 = .ok (.ireturn, 1) := by decide +kernel
theorem dX6_takeOut_0 : decode cX6_takeOut 0 = .ok (.iload_n 1, 1) := by decide +kernel
theorem dX6_takeOut_1 : decode cX6_takeOut 1 = .ok (.ifCond .lt 14, 3) := by decide +kernel
theorem dX6_takeOut_4 : decode cX6_takeOut 4 = .ok (.iload_n 1, 1) := by decide +kernel
theorem dX6_takeOut_5 : decode cX6_takeOut 5 = .ok (.iload_n 2, 1) := by decide +kernel
theorem dX6_takeOut_6 : decode cX6_takeOut 6 = .ok (.if_icmp .ge 9, 3) := by decide +kernel
theorem dX6_takeOut_9 : decode cX6_takeOut 9 = .ok (.iload_n 2, 1) := by decide +kernel
theorem dX6_takeOut_10 : decode cX6_takeOut 10 = .ok (.bipush 40, 2) := by decide +kernel
theorem dX6_takeOut_12 : decode cX6_takeOut 12 = .ok (.if_icmp .le 5, 3) := by decide +kernel
theorem dX6_takeOut_15 : decode cX6_takeOut 15 = .ok (.iconst (-1), 1) := by decide +kernel
theorem dX6_takeOut_16 : decode cX6_takeOut 16 = .ok (.ireturn, 1) := by decide +kernel
theorem dX6_takeOut_17 : decode cX6_takeOut 17 = .ok (.aload_n 0, 1) := by decide +kernel
theorem dX6_takeOut_18 : decode cX6_takeOut 18 = .ok (.getfield 20, 3) := by decide +kernel
theorem dX6_takeOut_21 : decode cX6_takeOut 21 = .ok (.iload_n 1, 1) := by decide +kernel
theorem dX6_takeOut_22 : decode cX6_takeOut 22 = .ok (.iaload, 1) := by decide +kernel
theorem dX6_takeOut_23 : decode cX6_takeOut 23 = .ok (.istore_n 3, 1) := by decide +kernel
theorem dX6_takeOut_24 : decode cX6_takeOut 24 = .ok (.aload_n 0, 1) := by decide +kernel
theorem dX6_takeOut_25 : decode cX6_takeOut 25 = .ok (.getfield 20, 3) := by decide +kernel
theorem dX6_takeOut_28 : decode cX6_takeOut 28 = .ok (.iload_n 1, 1) := by decide +kernel
theorem dX6_takeOut_29 : decode cX6_takeOut 29 = .ok (.iconst 1, 1) := by decide +kernel
theorem dX6_takeOut_30 : decode cX6_takeOut 30 = .ok (.iadd, 1) := by decide +kernel
theorem dX6_takeOut_31 : decode cX6_takeOut 31 = .ok (.aload_n 0, 1) := by decide +kernel
theorem dX6_takeOut_32 : decode cX6_takeOut 32 = .ok (.getfield 20, 3) := by decide +kernel
theorem dX6_takeOut_35 : decode cX6_takeOut 35 = .ok (.iload_n 1, 1) := by decide +kernel
theorem dX6_takeOut_36 : decode cX6_takeOut 36 = .ok (.iload_n 2, 1) := by decide +kernel
theorem dX6_takeOut_37 : decode cX6_takeOut 37 = .ok (.iload_n 1, 1) := by decide +kernel
theorem dX6_takeOut_38 : decode cX6_takeOut 38 = .ok (.isub, 1) := by decide +kernel
theorem dX6_takeOut_39 : decode cX6_takeOut 39 = .ok (.iconst 1, 1) := by decide +kernel
theorem dX6_takeOut_40 : decode cX6_takeOut 40 = .ok (.isub, 1) := by decide +kernel
theorem dX6_takeOut_41 : decode cX6_takeOut 41 = .ok (.invokestatic 87, 3) := by decide +kernel
theorem dX6_takeOut_44 : decode cX6_takeOut 44 = .ok (.iload_n 3, 1) := by decide +kernel
theorem dX6_takeOut_45 : decode cX6_takeOut 45 = .ok (.ireturn, 1) := by decide +kernel
set_option maxRecDepth 20000 in
theorem ggX6_choose_X3_sizeOf : GoodIn wsX6_choose wsX3_sizeOf := goodIn_r _ [13, 14, 15, 16, 17, 12, 18, 19, 141, 142, 143, 144, 145] (by decide +kernel) (by decide +kernel)
set_option maxRecDepth 20000 in
theorem gX6_choose_X3_sizeOf : GoodIn wsX6_choose (wsV RX6 75 RX3 yX3_sizeOf wsX3_sizeOf) := goodIn_app (goodIn_of _ (by decide +kernel)) ggX6_choose_X3_sizeOf
set_option maxRecDepth 20000 in
theorem ggX6_choose_X6_fillByVotes : GoodIn wsX6_choose wsX6_fillByVotes := goodIn_r _ [24, 1, 2, 25, 26, 27, 3, 28, 29, 30, 12, 31, 32, 15, 16, 17, 18, 19, 33, 34, 35, 36, 37, 38, 39, 40, 23, 41, 42, 43, 44, 45, 46, 4, 47, 48, 49, 50, 51, 52, 53, 54, 55, 56, 57, 58, 59, 60, 61, 62, 63, 64, 65, 66, 67, 68, 69, 70, 71, 72, 73, 74, 75, 76, 77, 78, 79, 80, 81, 82, 83, 84, 85, 86, 87, 88, 89, 90, 91, 92, 93, 94, 95, 96, 97, 98, 99, 100, 101, 102, 103, 104, 105, 106, 107, 108, 109, 110, 111, 112, 113, 114, 115, 116, 117, 118, 119, 120, 121, 122, 123, 124, 125, 126, 131, 132, 133, 134, 135, 136, 137, 138, 139, 140, 141, 142, 143, 144, 145, 146, 147, 148, 149, 150, 151, 152, 153, 154, 155, 156, 157] (by decide +kernel) (by decide +kernel)
set_option maxRecDepth 20000 in
theorem gX6_choose_X6_fillByVotes : GoodIn wsX6_choose (wsV RX6 112 RX6 yX6_fillByVotes wsX6_fillByVotes) := goodIn_app (goodIn_of _ (by decide +kernel)) ggX6_choose_X6_fillByVotes
set_option maxRecDepth 20000 in
theorem ggX6_choose_X6_stand : GoodIn wsX6_choose wsX6_stand := goodIn_r _ [130, 2, 42, 131, 132, 133, 134, 135, 136, 137, 138, 139, 140] (by decide +kernel) (by decide +kernel)
set_option maxRecDepth 20000 in
theorem gX6_choose_X6_stand : GoodIn wsX6_choose (wsV RX6 109 RX6 yX6_stand wsX6_stand) := goodIn_app (goodIn_of _ (by decide +kernel)) ggX6_choose_X6_stand
theorem dX6_choose_0 : decode cX6_choose 0 = .ok (.aload_n 0, 1) := by decide +kernel
theorem dX6_choose_1 : decode cX6_choose 1 = .ok (.getfield 29, 3) := by decide +kernel
theorem dX6_choose_4 : decode cX6_choose 4 = .ok (.aload_n 0, 1) := by decide +kernel
theorem dX6_choose_5 : decode cX6_choose 5 = .ok (.getfield 49, 3) := by decide +kernel
theorem dX6_choose_8 : decode cX6_choose 8 = .ok (.invokevirtual 75, 3) := by decide +kernel
theorem dX6_choose_11 : decode cX6_choose 11 = .ok (.istore_n 1, 1) := by decide +kernel
theorem dX6_choose_12 : decode cX6_choose 12 = .ok (.aload_n 0, 1) := by decide +kernel
theorem dX6_choose_13 : decode cX6_choose 13 = .ok (.iload_n 1, 1) := by decide +kernel
theorem dX6_choose_14 : decode cX6_choose 14 = .ok (.invokevirtual 112, 3) := by decide +kernel
theorem dX6_choose_17 : decode cX6_choose 17 = .ok (.ifCond .ne 5, 3) := by decide +kernel
theorem dX6_choose_20 : decode cX6_choose 20 = .ok (.iconst 2, 1) := by decide +kernel
theorem dX6_choose_21 : decode cX6_choose 21 = .ok (.ireturn, 1) := by decide +kernel
theorem dX6_choose_22 : decode cX6_choose 22 = .ok (.aload_n 0, 1) := by decide +kernel
theorem dX6_choose_23 : decode cX6_choose 23 = .ok (.getfield 20, 3) := by decide +kernel
theorem dX6_choose_26 : decode cX6_choose 26 = .ok (.iconst 0, 1) := by decide +kernel
theorem dX6_choose_27 : decode cX6_choose 27 = .ok (.aload_n 0, 1) := by decide +kernel
theorem dX6_choose_28 : decode cX6_choose 28 = .ok (.getfield 11, 3) := by decide +kernel
theorem dX6_choose_31 : decode cX6_choose 31 = .ok (.aload_n 0, 1) := by decide +kernel
theorem dX6_choose_32 : decode cX6_choose 32 = .ok (.getfield 49, 3) := by decide +kernel
theorem dX6_choose_35 : decode cX6_choose 35 = .ok (.iconst 1, 1) := by decide +kernel
theorem dX6_choose_36 : decode cX6_choose 36 = .ok (.iadd, 1) := by decide +kernel
theorem dX6_choose_37 : decode cX6_choose 37 = .ok (.aaload, 1) := by decide +kernel
theorem dX6_choose_38 : decode cX6_choose 38 = .ok (.iconst 0, 1) := by decide +kernel
theorem dX6_choose_39 : decode cX6_choose 39 = .ok (.iload_n 1, 1) := by decide +kernel
theorem dX6_choose_40 : decode cX6_choose 40 = .ok (.invokestatic 87, 3) := by decide +kernel
theorem dX6_choose_43 : decode cX6_choose 43 = .ok (.aload_n 0, 1) := by decide +kernel
theorem dX6_choose_44 : decode cX6_choose 44 = .ok (.iload_n 1, 1) := by decide +kernel
theorem dX6_choose_45 : decode cX6_choose 45 = .ok (.invokevirtual 109, 3) := by decide +kernel
theorem dX6_choose_48 : decode cX6_choose 48 = .ok (.iconst 0, 1) := by decide +kernel
theorem dX6_choose_49 : decode cX6_choose 49 = .ok (.ireturn, 1) := by decide +kernel
set_option maxRecDepth 20000 in
theorem ggX6_elect_X6_fillByVotes : GoodIn wsX6_elect wsX6_fillByVotes := goodIn_r _ [13, 14, 2, 15, 16, 17, 7, 18, 19, 20, 21, 22, 23, 24, 25, 26, 27, 28, 29, 30, 31, 32, 33, 34, 35, 36, 12, 37, 38, 39, 40, 41, 42, 1, 43, 44, 45, 46, 47, 48, 49, 50, 51, 52, 53, 54, 55, 56, 57, 58, 59, 60, 61, 62, 63, 64, 65, 66, 67, 68, 69, 70, 71, 72, 73, 74, 75, 76, 77, 78, 79, 80, 81, 82, 83, 84, 85, 86, 87, 88, 89, 90, 91, 92, 93, 94, 95, 96, 97, 98, 99, 100, 101, 102, 103, 104, 105, 106, 107, 108, 109, 110, 111, 112, 113, 114, 115, 116, 117, 118, 119, 120, 121, 122, 127, 128, 129, 130, 131, 132, 133, 134, 135, 136, 137, 138, 139, 140, 141, 142, 143, 144, 145, 146, 147, 148, 149, 150, 151, 152, 153] (by decide +kernel) (by decide +kernel)
set_option maxRecDepth 20000 in
theorem gX6_elect_X6_fillByVotes : GoodIn wsX6_elect (wsV RX6 112 RX6 yX6_fillByVotes wsX6_fillByVotes) := goodIn_app (goodIn_of _ (by decide +kernel)) ggX6_elect_X6_fillByVotes
set_option maxRecDepth 20000 in
theorem ggX6_elect_X6_bodySize : GoodIn wsX6_elect wsX6_bodySize := goodIn_r _ [37, 2, 38, 39, 40, 41, 12, 42, 17, 1, 43, 44, 45, 46, 47, 48, 49, 50, 51, 52, 53, 54, 55, 56, 57, 127, 128, 129, 130, 131, 132, 133, 134, 135, 136, 142, 143, 144, 145, 146, 147, 148] (by decide +kernel) (by decide +kernel)
set_option maxRecDepth 20000 in
theorem gX6_elect_X6_bodySize : GoodIn wsX6_elect (wsV RX6 59 RX6 yX6_bodySize wsX6_bodySize) := goodIn_app (goodIn_of _ (by decide +kernel)) ggX6_elect_X6_bodySize
set_option maxRecDepth 20000 in
theorem ggX6_elect_X6_stand : GoodIn wsX6_elect wsX6_stand := goodIn_r _ [126, 2, 38, 127, 128, 129, 130, 131, 132, 133, 134, 135, 136] (by decide +kernel) (by decide +kernel)
set_option maxRecDepth 20000 in
theorem gX6_elect_X6_stand : GoodIn wsX6_elect (wsV RX6 109 RX6 yX6_stand wsX6_stand) := goodIn_app (goodIn_of _ (by decide +kernel)) ggX6_elect_X6_stand
theorem dX6_elect_0 : decode cX6_elect 0 = .ok (.aload_n 0, 1) := by decide +kernel
theorem dX6_elect_1 : decode cX6_elect 1 = .ok (.iconst 1, 1) := by decide +kernel
theorem dX6_elect_2 : decode cX6_elect 2 = .ok (.invokevirtual 112, 3) := by decide +kernel
theorem dX6_elect_5 : decode cX6_elect 5 = .ok (.ifCond .ne 5, 3) := by decide +kernel
theorem dX6_elect_8 : decode cX6_elect 8 = .ok (.iconst 2, 1) := by decide +kernel
theorem dX6_elect_9 : decode cX6_elect 9 = .ok (.ireturn, 1) := by decide +kernel
theorem dX6_elect_10 : decode cX6_elect 10 = .ok (.aload_n 0, 1) := by decide +kernel
theorem dX6_elect_11 : decode cX6_elect 11 = .ok (.invokevirtual 59, 3) := by decide +kernel
theorem dX6_elect_14 : decode cX6_elect 14 = .ok (.istore_n 1, 1) := by decide +kernel
theorem dX6_elect_15 : decode cX6_elect 15 = .ok (.aload_n 0, 1) := by decide +kernel
theorem dX6_elect_16 : decode cX6_elect 16 = .ok (.getfield 11, 3) := by decide +kernel
theorem dX6_elect_19 : decode cX6_elect 19 = .ok (.aload_n 0, 1) := by decide +kernel
theorem dX6_elect_20 : decode cX6_elect 20 = .ok (.getfield 49, 3) := by decide +kernel
theorem dX6_elect_23 : decode cX6_elect 23 = .ok (.aaload, 1) := by decide +kernel
theorem dX6_elect_24 : decode cX6_elect 24 = .ok (.iconst 0, 1) := by decide +kernel
theorem dX6_elect_25 : decode cX6_elect 25 = .ok (.aload_n 0, 1) := by decide +kernel
theorem dX6_elect_26 : decode cX6_elect 26 = .ok (.getfield 11, 3) := by decide +kernel
theorem dX6_elect_29 : decode cX6_elect 29 = .ok (.aload_n 0, 1) := by decide +kernel
theorem dX6_elect_30 : decode cX6_elect 30 = .ok (.getfield 49, 3) := by decide +kernel
theorem dX6_elect_33 : decode cX6_elect 33 = .ok (.iconst 1, 1) := by decide +kernel
theorem dX6_elect_34 : decode cX6_elect 34 = .ok (.iadd, 1) := by decide +kernel
theorem dX6_elect_35 : decode cX6_elect 35 = .ok (.aaload, 1) := by decide +kernel
theorem dX6_elect_36 : decode cX6_elect 36 = .ok (.iconst 0, 1) := by decide +kernel
theorem dX6_elect_37 : decode cX6_elect 37 = .ok (.iload_n 1, 1) := by decide +kernel
theorem dX6_elect_38 : decode cX6_elect 38 = .ok (.invokestatic 87, 3) := by decide +kernel
theorem dX6_elect_41 : decode cX6_elect 41 = .ok (.aload_n 0, 1) := by decide +kernel
theorem dX6_elect_42 : decode cX6_elect 42 = .ok (.aload_n 0, 1) := by decide +kernel
theorem dX6_elect_43 : decode cX6_elect 43 = .ok (.getfield 20, 3) := by decide +kernel
theorem dX6_elect_46 : decode cX6_elect 46 = .ok (.iconst 0, 1) := by decide +kernel
theorem dX6_elect_47 : decode cX6_elect 47 = .ok (.iaload, 1) := by decide +kernel
theorem dX6_elect_48 : decode cX6_elect 48 = .ok (.putfield 33, 3) := by decide +kernel
theorem dX6_elect_51 : decode cX6_elect 51 = .ok (.aload_n 0, 1) := by decide +kernel
theorem dX6_elect_52 : decode cX6_elect 52 = .ok (.iload_n 1, 1) := by decide +kernel
theorem dX6_elect_53 : decode cX6_elect 53 = .ok (.invokevirtual 109, 3) := by decide +kernel
theorem dX6_elect_56 : decode cX6_elect 56 = .ok (.iconst 0, 1) := by decide +kernel
theorem dX6_elect_57 : decode cX6_elect 57 = .ok (.ireturn, 1) := by decide +kernel
theorem dX6_stand_0 : decode cX6_stand 0 = .ok (.aload_n 0, 1) := by decide +kernel
theorem dX6_stand_1 : decode cX6_stand 1 = .ok (.getfield 49, 3) := by decide +kernel
theorem dX6_stand_4 : decode cX6_stand 4 = .ok (.bipush 12, 2) := by decide +kernel
theorem dX6_stand_6 : decode cX6_stand 6 = .ok (.if_icmp .ge 23, 3) := by decide +kernel
theorem dX6_stand_9 : decode cX6_stand 9 = .ok (.aload_n 0, 1) := by decide +kernel
theorem dX6_stand_10 : decode cX6_stand 10 = .ok (.dup, 1) := by decide +kernel
theorem dX6_stand_11 : decode cX6_stand 11 = .ok (.getfield 49, 3) := by decide +kernel
theorem dX6_stand_14 : decode cX6_stand 14 = .ok (.iconst 1, 1) := by decide +kernel
theorem dX6_stand_15 : decode cX6_stand 15 = .ok (.iadd, 1) := by decide +kernel
theorem dX6_stand_16 : decode cX6_stand 16 = .ok (.putfield 49, 3) := by decide +kernel
theorem dX6_stand_19 : decode cX6_stand 19 = .ok (.aload_n 0, 1) := by decide +kernel
theorem dX6_stand_20 : decode cX6_stand 20 = .ok (.getfield 16, 3) := by decide +kernel
theorem dX6_stand_23 : decode cX6_stand 23 = .ok (.aload_n 0, 1) := by decide +kernel
theorem dX6_stand_24 : decode cX6_stand 24 = .ok (.getfield 49, 3) := by decide +kernel
theorem dX6_stand_27 : decode cX6_stand 27 = .ok (.iload_n 1, 1) := by decide +kernel
theorem dX6_stand_28 : decode cX6_stand 28 = .ok (.iastore, 1) := by decide +kernel
theorem dX6_stand_29 : decode cX6_stand 29 = .ok (.return_, 1) := by decide +kernel
set_option maxRecDepth 20000 in
theorem ggX6_fillByVotes_X3_votesOf : GoodIn wsX6_fillByVotes wsX3_votesOf := goodIn_r _ [11, 12, 13, 14, 15, 10, 16, 17, 124, 125, 126, 127, 128] (by decide +kernel) (by decide +kernel)
set_option maxRecDepth 20000 in
theorem gX6_fillByVotes_X3_votesOf : GoodIn wsX6_fillByVotes (wsV RX6 115 RX3 yX3_votesOf wsX3_votesOf) := goodIn_app (goodIn_of _ (by decide +kernel)) ggX6_fillByVotes_X3_votesOf
set_option maxRecDepth 20000 in
theorem ggX6_fillByVotes_X3_limitOf : GoodIn wsX6_fillByVotes wsX3_limitOf := goodIn_r _ [21, 22, 13, 14, 15, 10, 16, 17, 124, 125, 126, 127, 128] (by decide +kernel) (by decide +kernel)
set_option maxRecDepth 20000 in
theorem gX6_fillByVotes_X3_limitOf : GoodIn wsX6_fillByVotes (wsV RX6 118 RX3 yX3_limitOf wsX3_limitOf) := goodIn_app (goodIn_of _ (by decide +kernel)) ggX6_fillByVotes_X3_limitOf
set_option maxRecDepth 20000 in
theorem ggX6_fillByVotes_X6_bodySize : GoodIn wsX6_fillByVotes wsX6_bodySize := goodIn_r _ [27, 2, 28, 29, 30, 31, 26, 32, 5, 33, 34, 35, 36, 37, 38, 39, 40, 41, 42, 43, 44, 45, 46, 47, 48, 114, 115, 116, 117, 118, 119, 120, 121, 122, 123, 129, 130, 131, 132, 133, 134, 135] (by decide +kernel) (by decide +kernel)
set_option maxRecDepth 20000 in
theorem gX6_fillByVotes_X6_bodySize : GoodIn wsX6_fillByVotes (wsV RX6 59 RX6 yX6_bodySize wsX6_bodySize) := goodIn_app (goodIn_of _ (by decide +kernel)) ggX6_fillByVotes_X6_bodySize
set_option maxRecDepth 20000 in
theorem ggX6_fillByVotes_X4_open : GoodIn wsX6_fillByVotes wsX4_open := goodIn_r _ [53, 54, 55, 56, 57, 58, 59, 60, 61, 62, 136, 137, 138, 139, 140] (by decide +kernel) (by decide +kernel)
set_option maxRecDepth 20000 in
theorem gX6_fillByVotes_X4_open : GoodIn wsX6_fillByVotes (wsV RX6 121 RX4 yX4_open wsX4_open) := goodIn_app (goodIn_of _ (by decide +kernel)) ggX6_fillByVotes_X4_open
set_option maxRecDepth 20000 in
theorem ggX6_fillByVotes_J7_fill_53178 : GoodIn wsX6_fillByVotes wsJ7_fill_53178 := goodIn_r _ [62] (by decide +kernel) (by decide +kernel)
set_option maxRecDepth 20000 in
theorem gX6_fillByVotes_J7_fill_53178 : GoodIn wsX6_fillByVotes (va_wsS RX6 126 yJ7_fill_53178 wsJ7_fill_53178) := goodIn_app (goodIn_of _ (by decide +kernel)) ggX6_fillByVotes_J7_fill_53178
set_option maxRecDepth 20000 in
theorem ggX6_fillByVotes_X0_size : GoodIn wsX6_fillByVotes wsX0_size := goodIn_r _ [38, 39, 129, 130, 131, 132, 133, 134, 135] (by decide +kernel) (by decide +kernel)
set_option maxRecDepth 20000 in
theorem gX6_fillByVotes_X0_size : GoodIn wsX6_fillByVotes (wsV RX6 62 RX0 yX0_size wsX0_size) := goodIn_app (goodIn_of _ (by decide +kernel)) ggX6_fillByVotes_X0_size
set_option maxRecDepth 20000 in
theorem ggX6_fillByVotes_X0_isThere : GoodIn wsX6_fillByVotes wsX0_isThere := goodIn_r _ [43, 44, 45, 46, 47, 37, 48, 39, 129, 130, 131, 132, 133, 134, 135] (by decide +kernel) (by decide +kernel)
set_option maxRecDepth 20000 in
theorem gX6_fillByVotes_X0_isThere : GoodIn wsX6_fillByVotes (wsV RX6 67 RX0 yX0_isThere wsX0_isThere) := goodIn_app (goodIn_of _ (by decide +kernel)) ggX6_fillByVotes_X0_isThere
set_option maxRecDepth 20000 in
theorem ggX6_fillByVotes_X0_houseOf : GoodIn wsX6_fillByVotes wsX0_houseOf := goodIn_r _ [67, 68, 45, 46, 47, 37, 48, 39, 129, 130, 131, 132, 133, 134, 135] (by decide +kernel) (by decide +kernel)
set_option maxRecDepth 20000 in
theorem gX6_fillByVotes_X0_houseOf : GoodIn wsX6_fillByVotes (wsV RX6 132 RX0 yX0_houseOf wsX0_houseOf) := goodIn_app (goodIn_of _ (by decide +kernel)) ggX6_fillByVotes_X0_houseOf
set_option maxRecDepth 20000 in
theorem ggX6_fillByVotes_X6_chosenOf : GoodIn wsX6_fillByVotes wsX6_chosenOf := goodIn_r _ [72, 4, 73, 74, 37, 75, 114, 115, 116, 117, 118, 119, 120, 121, 122, 123] (by decide +kernel) (by decide +kernel)
set_option maxRecDepth 20000 in
theorem gX6_fillByVotes_X6_chosenOf : GoodIn wsX6_fillByVotes (wsV RX6 135 RX6 yX6_chosenOf wsX6_chosenOf) := goodIn_app (goodIn_of _ (by decide +kernel)) ggX6_fillByVotes_X6_chosenOf
set_option maxRecDepth 20000 in
theorem ggX6_fillByVotes_X4_bar : GoodIn wsX6_fillByVotes wsX4_bar := goodIn_r _ [79, 55, 136, 137, 138, 139, 140] (by decide +kernel) (by decide +kernel)
set_option maxRecDepth 20000 in
theorem gX6_fillByVotes_X4_bar : GoodIn wsX6_fillByVotes (wsV RX6 138 RX4 yX4_bar wsX4_bar) := goodIn_app (goodIn_of _ (by decide +kernel)) ggX6_fillByVotes_X4_bar
set_option maxRecDepth 20000 in
theorem ggX6_fillByVotes_X6_votesFor : GoodIn wsX6_fillByVotes wsX6_votesFor := goodIn_r _ [83, 33, 2, 5, 40, 41, 42, 37, 43, 44, 45, 46, 47, 48, 39, 84, 85, 86, 87, 68, 88, 89, 90, 91, 92, 93, 94, 95, 96, 97, 98, 99, 100, 101, 102, 103, 104, 105, 114, 115, 116, 117, 118, 119, 120, 121, 122, 123, 129, 130, 131, 132, 133, 134, 135] (by decide +kernel) (by decide +kernel)
set_option maxRecDepth 20000 in
theorem gX6_fillByVotes_X6_votesFor : GoodIn wsX6_fillByVotes (wsV RX6 141 RX6 yX6_votesFor wsX6_votesFor) := goodIn_app (goodIn_of _ (by decide +kernel)) ggX6_fillByVotes_X6_votesFor
set_option maxRecDepth 20000 in
theorem ggX6_fillByVotes_X4_note : GoodIn wsX6_fillByVotes wsX4_note := goodIn_r _ [109, 58, 56, 57, 136, 137, 138, 139, 140] (by decide +kernel) (by decide +kernel)
set_option maxRecDepth 20000 in
theorem gX6_fillByVotes_X4_note : GoodIn wsX6_fillByVotes (wsV RX6 144 RX4 yX4_note wsX4_note) := goodIn_app (goodIn_of _ (by decide +kernel)) ggX6_fillByVotes_X4_note
set_option maxRecDepth 20000 in
theorem ggX6_fillByVotes_X6_countHouse : GoodIn wsX6_fillByVotes wsX6_countHouse := goodIn_r _ [113, 4, 73, 74, 37, 75, 114, 115, 116, 117, 118, 119, 120, 121, 122, 123] (by decide +kernel) (by decide +kernel)
set_option maxRecDepth 20000 in
theorem gX6_fillByVotes_X6_countHouse : GoodIn wsX6_fillByVotes (wsV RX6 148 RX6 yX6_countHouse wsX6_countHouse) := goodIn_app (goodIn_of _ (by decide +kernel)) ggX6_fillByVotes_X6_countHouse
theorem dX6_fillByVotes_0 : decode cX6_fillByVotes 0 = .ok (.aload_n 0, 1) := by decide +kernel
theorem dX6_fillByVotes_1 : decode cX6_fillByVotes 1 = .ok (.getfield 29, 3) := by decide +kernel
theorem dX6_fillByVotes_4 : decode cX6_fillByVotes 4 = .ok (.aload_n 0, 1) := by decide +kernel
theorem dX6_fillByVotes_5 : decode cX6_fillByVotes 5 = .ok (.getfield 49, 3) := by decide +kernel
theorem dX6_fillByVotes_8 : decode cX6_fillByVotes 8 = .ok (.invokevirtual 115, 3) := by decide +kernel
theorem dX6_fillByVotes_11 : decode cX6_fillByVotes 11 = .ok (.istore_n 2, 1) := by decide +kernel
theorem dX6_fillByVotes_12 : decode cX6_fillByVotes 12 = .ok (.aload_n 0, 1) := by decide +kernel
theorem dX6_fillByVotes_13 : decode cX6_fillByVotes 13 = .ok (.getfield 29, 3) := by decide +kernel
theorem dX6_fillByVotes_16 : decode cX6_fillByVotes 16 = .ok (.aload_n 0, 1) := by decide +kernel
theorem dX6_fillByVotes_17 : decode cX6_fillByVotes 17 = .ok (.getfield 49, 3) := by decide +kernel
theorem dX6_fillByVotes_20 : decode cX6_fillByVotes 20 = .ok (.invokevirtual 118, 3) := by decide +kernel
theorem dX6_fillByVotes_23 : decode cX6_fillByVotes 23 = .ok (.istore_n 3, 1) := by decide +kernel
theorem dX6_fillByVotes_24 : decode cX6_fillByVotes 24 = .ok (.aload_n 0, 1) := by decide +kernel
theorem dX6_fillByVotes_25 : decode cX6_fillByVotes 25 = .ok (.invokevirtual 59, 3) := by decide +kernel
theorem dX6_fillByVotes_28 : decode cX6_fillByVotes 28 = .ok (.istore 4, 2) := by decide +kernel
theorem dX6_fillByVotes_30 : decode cX6_fillByVotes 30 = .ok (.iconst 0, 1) := by decide +kernel
theorem dX6_fillByVotes_31 : decode cX6_fillByVotes 31 = .ok (.istore 5, 2) := by decide +kernel
theorem dX6_fillByVotes_33 : decode cX6_fillByVotes 33 = .ok (.aload_n 0, 1) := by decide +kernel
theorem dX6_fillByVotes_34 : decode cX6_fillByVotes 34 = .ok (.getfield 45, 3) := by decide +kernel
theorem dX6_fillByVotes_37 : decode cX6_fillByVotes 37 = .ok (.invokevirtual 121, 3) := by decide +kernel
theorem dX6_fillByVotes_40 : decode cX6_fillByVotes 40 = .ok (.aload_n 0, 1) := by decide +kernel
theorem dX6_fillByVotes_41 : decode cX6_fillByVotes 41 = .ok (.getfield 23, 3) := by decide +kernel
theorem dX6_fillByVotes_44 : decode cX6_fillByVotes 44 = .ok (.iconst 0, 1) := by decide +kernel
theorem dX6_fillByVotes_45 : decode cX6_fillByVotes 45 = .ok (.invokestatic 126, 3) := by decide +kernel
theorem dX6_fillByVotes_48 : decode cX6_fillByVotes 48 = .ok (.iconst 0, 1) := by decide +kernel
theorem dX6_fillByVotes_49 : decode cX6_fillByVotes 49 = .ok (.istore 6, 2) := by decide +kernel
theorem dX6_fillByVotes_51 : decode cX6_fillByVotes 51 = .ok (.iload 6, 2) := by decide +kernel
theorem dX6_fillByVotes_53 : decode cX6_fillByVotes 53 = .ok (.aload_n 0, 1) := by decide +kernel
theorem dX6_fillByVotes_54 : decode cX6_fillByVotes 54 = .ok (.getfield 37, 3) := by decide +kernel
theorem dX6_fillByVotes_57 : decode cX6_fillByVotes 57 = .ok (.invokevirtual 62, 3) := by decide +kernel
theorem dX6_fillByVotes_60 : decode cX6_fillByVotes 60 = .ok (.if_icmp .ge 128, 3) := by decide +kernel
theorem dX6_fillByVotes_63 : decode cX6_fillByVotes 63 = .ok (.iload 5, 2) := by decide +kernel
theorem dX6_fillByVotes_65 : decode cX6_fillByVotes 65 = .ok (.iload_n 1, 1) := by decide +kernel
theorem dX6_fillByVotes_66 : decode cX6_fillByVotes 66 = .ok (.if_icmp .ge 122, 3) := by decide +kernel
theorem dX6_fillByVotes_69 : decode cX6_fillByVotes 69 = .ok (.aload_n 0, 1) := by decide +kernel
theorem dX6_fillByVotes_70 : decode cX6_fillByVotes 70 = .ok (.getfield 37, 3) := by decide +kernel
theorem dX6_fillByVotes_73 : decode cX6_fillByVotes 73 = .ok (.iload 6, 2) := by decide +kernel
theorem dX6_fillByVotes_75 : decode cX6_fillByVotes 75 = .ok (.invokevirtual 67, 3) := by decide +kernel
theorem dX6_fillByVotes_78 : decode cX6_fillByVotes 78 = .ok (.ifCond .ne 6, 3) := by decide +kernel
theorem dX6_fillByVotes_81 : decode cX6_fillByVotes 81 = .ok (.goto 101, 3) := by decide +kernel
theorem dX6_fillByVotes_84 : decode cX6_fillByVotes 84 = .ok (.aload_n 0, 1) := by decide +kernel
theorem dX6_fillByVotes_85 : decode cX6_fillByVotes 85 = .ok (.getfield 37, 3) := by decide +kernel
theorem dX6_fillByVotes_88 : decode cX6_fillByVotes 88 = .ok (.iload 6, 2) := by decide +kernel
theorem dX6_fillByVotes_90 : decode cX6_fillByVotes 90 = .ok (.invokevirtual 132, 3) := by decide +kernel
theorem dX6_fillByVotes_93 : decode cX6_fillByVotes 93 = .ok (.istore 7, 2) := by decide +kernel
theorem dX6_fillByVotes_95 : decode cX6_fillByVotes 95 = .ok (.iload_n 3, 1) := by decide +kernel
theorem dX6_fillByVotes_96 : decode cX6_fillByVotes 96 = .ok (.ifCond .le 23, 3) := by decide +kernel
theorem dX6_fillByVotes_99 : decode cX6_fillByVotes 99 = .ok (.aload_n 0, 1) := by decide +kernel
theorem dX6_fillByVotes_100 : decode cX6_fillByVotes 100 = .ok (.iload 7, 2) := by decide +kernel
theorem dX6_fillByVotes_102 : decode cX6_fillByVotes 102 = .ok (.invokevirtual 135, 3) := by decide +kernel
theorem dX6_fillByVotes_105 : decode cX6_fillByVotes 105 = .ok (.iload_n 3, 1) := by decide +kernel
theorem dX6_fillByVotes_106 : decode cX6_fillByVotes 106 = .ok (.if_icmp .lt 13, 3) := by decide +kernel
theorem dX6_fillByVotes_109 : decode cX6_fillByVotes 109 = .ok (.aload_n 0, 1) := by decide +kernel
theorem dX6_fillByVotes_110 : decode cX6_fillByVotes 110 = .ok (.getfield 45, 3) := by decide +kernel
theorem dX6_fillByVotes_113 : decode cX6_fillByVotes 113 = .ok (.invokevirtual 138, 3) := by decide +kernel
theorem dX6_fillByVotes_116 : decode cX6_fillByVotes 116 = .ok (.goto 66, 3) := by decide +kernel
theorem dX6_fillByVotes_119 : decode cX6_fillByVotes 119 = .ok (.aload_n 0, 1) := by decide +kernel
theorem dX6_fillByVotes_120 : decode cX6_fillByVotes 120 = .ok (.iload 6, 2) := by decide +kernel
theorem dX6_fillByVotes_122 : decode cX6_fillByVotes 122 = .ok (.iload 4, 2) := by decide +kernel
theorem dX6_fillByVotes_124 : decode cX6_fillByVotes 124 = .ok (.invokevirtual 141, 3) := by decide +kernel
theorem dX6_fillByVotes_127 : decode cX6_fillByVotes 127 = .ok (.istore 8, 2) := by decide +kernel
theorem dX6_fillByVotes_129 : decode cX6_fillByVotes 129 = .ok (.aload_n 0, 1) := by decide +kernel
theorem dX6_fillByVotes_130 : decode cX6_fillByVotes 130 = .ok (.getfield 45, 3) := by decide +kernel
theorem dX6_fillByVotes_133 : decode cX6_fillByVotes 133 = .ok (.iload 6, 2) := by decide +kernel
theorem dX6_fillByVotes_135 : decode cX6_fillByVotes 135 = .ok (.iload 8, 2) := by decide +kernel
theorem dX6_fillByVotes_137 : decode cX6_fillByVotes 137 = .ok (.iload 8, 2) := by decide +kernel
theorem dX6_fillByVotes_139 : decode cX6_fillByVotes 139 = .ok (.iload_n 2, 1) := by decide +kernel
theorem dX6_fillByVotes_140 : decode cX6_fillByVotes 140 = .ok (.if_icmp .lt 7, 3) := by decide +kernel
theorem dX6_fillByVotes_143 : decode cX6_fillByVotes 143 = .ok (.iconst 1, 1) := by decide +kernel
theorem dX6_fillByVotes_144 : decode cX6_fillByVotes 144 = .ok (.goto 4, 3) := by decide +kernel
theorem dX6_fillByVotes_147 : decode cX6_fillByVotes 147 = .ok (.iconst 0, 1) := by decide +kernel
theorem dX6_fillByVotes_148 : decode cX6_fillByVotes 148 = .ok (.invokevirtual 144, 3) := by decide +kernel
theorem dX6_fillByVotes_151 : decode cX6_fillByVotes 151 = .ok (.iload 8, 2) := by decide +kernel
theorem dX6_fillByVotes_153 : decode cX6_fillByVotes 153 = .ok (.iload_n 2, 1) := by decide +kernel
theorem dX6_fillByVotes_154 : decode cX6_fillByVotes 154 = .ok (.if_icmp .lt 28, 3) := by decide +kernel
theorem dX6_fillByVotes_157 : decode cX6_fillByVotes 157 = .ok (.iload 5, 2) := by decide +kernel
theorem dX6_fillByVotes_159 : decode cX6_fillByVotes 159 = .ok (.bipush 40, 2) := by decide +kernel
theorem dX6_fillByVotes_161 : decode cX6_fillByVotes 161 = .ok (.if_icmp .ge 21, 3) := by decide +kernel
theorem dX6_fillByVotes_164 : decode cX6_fillByVotes 164 = .ok (.aload_n 0, 1) := by decide +kernel
theorem dX6_fillByVotes_165 : decode cX6_fillByVotes 165 = .ok (.getfield 20, 3) := by decide +kernel
theorem dX6_fillByVotes_168 : decode cX6_fillByVotes 168 = .ok (.iload 5, 2) := by decide +kernel
theorem dX6_fillByVotes_170 : decode cX6_fillByVotes 170 = .ok (.iload 6, 2) := by decide +kernel
theorem dX6_fillByVotes_172 : decode cX6_fillByVotes 172 = .ok (.iastore, 1) := by decide +kernel
theorem dX6_fillByVotes_173 : decode cX6_fillByVotes 173 = .ok (.iinc 5 1, 3) := by decide +kernel
theorem dX6_fillByVotes_176 : decode cX6_fillByVotes 176 = .ok (.aload_n 0, 1) := by decide +kernel
theorem dX6_fillByVotes_177 : decode cX6_fillByVotes 177 = .ok (.iload 7, 2) := by decide +kernel
theorem dX6_fillByVotes_179 : decode cX6_fillByVotes 179 = .ok (.invokevirtual 148, 3) := by decide +kernel
theorem dX6_fillByVotes_182 : decode cX6_fillByVotes 182 = .ok (.iinc 6 1, 3) := by decide +kernel
theorem dX6_fillByVotes_185 : decode cX6_fillByVotes 185 = .ok (.goto (-134), 3) := by decide +kernel
theorem dX6_fillByVotes_188 : decode cX6_fillByVotes 188 = .ok (.iload 5, 2) := by decide +kernel
theorem dX6_fillByVotes_190 : decode cX6_fillByVotes 190 = .ok (.iload_n 1, 1) := by decide +kernel
theorem dX6_fillByVotes_191 : decode cX6_fillByVotes 191 = .ok (.if_icmp .lt 7, 3) := by decide +kernel
theorem dX6_fillByVotes_194 : decode cX6_fillByVotes 194 = .ok (.iconst 1, 1) := by decide +kernel
theorem dX6_fillByVotes_195 : decode cX6_fillByVotes 195 = .ok (.goto 4, 3) := by decide +kernel
theorem dX6_fillByVotes_198 : decode cX6_fillByVotes 198 = .ok (.iconst 0, 1) := by decide +kernel
theorem dX6_fillByVotes_199 : decode cX6_fillByVotes 199 = .ok (.ireturn, 1) := by decide +kernel
set_option maxRecDepth 20000 in
theorem ggX6_chosenOf_X0_isHouse : GoodIn wsX6_chosenOf wsX0_isHouse := goodIn_r _ [5] (by decide +kernel) (by decide +kernel)
set_option maxRecDepth 20000 in
theorem gX6_chosenOf_X0_isHouse : GoodIn wsX6_chosenOf (va_wsS RX6 151 yX0_isHouse wsX0_isHouse) := goodIn_app (goodIn_of _ (by decide +kernel)) ggX6_chosenOf_X0_isHouse
theorem dX6_chosenOf_0 : decode cX6_chosenOf 0 = .ok (.iload_n 1, 1) := by decide +kernel
theorem dX6_chosenOf_1 : decode cX6_chosenOf 1 = .ok (.invokestatic 151, 3) := by decide +kernel
theorem dX6_chosenOf_4 : decode cX6_chosenOf 4 = .ok (.ifCond .eq 12, 3) := by decide +kernel
theorem dX6_chosenOf_7 : decode cX6_chosenOf 7 = .ok (.aload_n 0, 1) := by decide +kernel
theorem dX6_chosenOf_8 : decode cX6_chosenOf 8 = .ok (.getfield 23, 3) := by decide +kernel
theorem dX6_chosenOf_11 : decode cX6_chosenOf 11 = .ok (.iload_n 1, 1) := by decide +kernel
theorem dX6_chosenOf_12 : decode cX6_chosenOf 12 = .ok (.iaload, 1) := by decide +kernel
theorem dX6_chosenOf_13 : decode cX6_chosenOf 13 = .ok (.goto 4, 3) := by decide +kernel
theorem dX6_chosenOf_16 : decode cX6_chosenOf 16 = .ok (.iconst 0, 1) := by decide +kernel
theorem dX6_chosenOf_17 : decode cX6_chosenOf 17 = .ok (.ireturn, 1) := by decide +kernel
set_option maxRecDepth 20000 in
theorem ggX6_countHouse_X0_isHouse : GoodIn wsX6_countHouse wsX0_isHouse := goodIn_r _ [5] (by decide +kernel) (by decide +kernel)
set_option maxRecDepth 20000 in
theorem gX6_countHouse_X0_isHouse : GoodIn wsX6_countHouse (va_wsS RX6 151 yX0_isHouse wsX0_isHouse) := goodIn_app (goodIn_of _ (by decide +kernel)) ggX6_countHouse_X0_isHouse
theorem dX6_countHouse_0 : decode cX6_countHouse 0 = .ok (.iload_n 1, 1) := by decide +kernel
theorem dX6_countHouse_1 : decode cX6_countHouse 1 = .ok (.invokestatic 151, 3) := by decide +kernel
theorem dX6_countHouse_4 : decode cX6_countHouse 4 = .ok (.ifCond .eq 13, 3) := by decide +kernel
theorem dX6_countHouse_7 : decode cX6_countHouse 7 = .ok (.aload_n 0, 1) := by decide +kernel
theorem dX6_countHouse_8 : decode cX6_countHouse 8 = .ok (.getfield 23, 3) := by decide +kernel
theorem dX6_countHouse_11 : decode cX6_countHouse 11 = .ok (.iload_n 1, 1) := by decide +kernel
theorem dX6_countHouse_12 : decode cX6_countHouse 12 = .ok (.dup2, 1) := by decide +kernel
theorem dX6_countHouse_13 : decode cX6_countHouse 13 = .ok (.iaload, 1) := by decide +kernel
theorem dX6_countHouse_14 : decode cX6_countHouse 14 = .ok (.iconst 1, 1) := by decide +kernel
theorem dX6_countHouse_15 : decode cX6_countHouse 15 = .ok (.iadd, 1) := by decide +kernel
theorem dX6_countHouse_16 : decode cX6_countHouse 16 = .ok (.iastore, 1) := by decide +kernel
theorem dX6_countHouse_17 : decode cX6_countHouse 17 = .ok (.return_, 1) := by decide +kernel
set_option maxRecDepth 20000 in
theorem ggX6_votesFor_X0_isThere : GoodIn wsX6_votesFor wsX0_isThere := goodIn_r _ [8, 9, 10, 11, 12, 7, 13, 14, 48, 49, 50, 51, 52, 53, 54] (by decide +kernel) (by decide +kernel)
set_option maxRecDepth 20000 in
theorem gX6_votesFor_X0_isThere : GoodIn wsX6_votesFor (wsV RX6 67 RX0 yX0_isThere wsX0_isThere) := goodIn_app (goodIn_of _ (by decide +kernel)) ggX6_votesFor_X0_isThere
set_option maxRecDepth 20000 in
theorem ggX6_votesFor_X0_areKin : GoodIn wsX6_votesFor wsX0_areKin := goodIn_r _ [18, 19, 10, 11, 12, 7, 13, 14, 20, 21, 22, 23, 24, 48, 49, 50, 51, 52, 53, 54] (by decide +kernel) (by decide +kernel)
set_option maxRecDepth 20000 in
theorem gX6_votesFor_X0_areKin : GoodIn wsX6_votesFor (wsV RX6 154 RX0 yX0_areKin wsX0_areKin) := goodIn_app (goodIn_of _ (by decide +kernel)) ggX6_votesFor_X0_areKin
set_option maxRecDepth 20000 in
theorem ggX6_votesFor_X0_partyOf : GoodIn wsX6_votesFor wsX0_partyOf := goodIn_r _ [28, 29, 10, 11, 12, 7, 13, 14, 48, 49, 50, 51, 52, 53, 54] (by decide +kernel) (by decide +kernel)
set_option maxRecDepth 20000 in
theorem gX6_votesFor_X0_partyOf : GoodIn wsX6_votesFor (wsV RX6 158 RX0 yX0_partyOf wsX0_partyOf) := goodIn_app (goodIn_of _ (by decide +kernel)) ggX6_votesFor_X0_partyOf
set_option maxRecDepth 20000 in
theorem ggX6_votesFor_X0_saysYes : GoodIn wsX6_votesFor wsX0_saysYes := goodIn_r _ [33, 34, 35, 36, 7, 37, 48, 49, 50, 51, 52, 53, 54] (by decide +kernel) (by decide +kernel)
set_option maxRecDepth 20000 in
theorem gX6_votesFor_X0_saysYes : GoodIn wsX6_votesFor (wsV RX6 161 RX0 yX0_saysYes wsX0_saysYes) := goodIn_app (goodIn_of _ (by decide +kernel)) ggX6_votesFor_X0_saysYes
theorem dX6_votesFor_0 : decode cX6_votesFor 0 = .ok (.iconst 0, 1) := by decide +kernel
theorem dX6_votesFor_1 : decode cX6_votesFor 1 = .ok (.istore_n 3, 1) := by decide +kernel
theorem dX6_votesFor_2 : decode cX6_votesFor 2 = .ok (.iconst 0, 1) := by decide +kernel
theorem dX6_votesFor_3 : decode cX6_votesFor 3 = .ok (.istore 4, 2) := by decide +kernel
theorem dX6_votesFor_5 : decode cX6_votesFor 5 = .ok (.iload 4, 2) := by decide +kernel
theorem dX6_votesFor_7 : decode cX6_votesFor 7 = .ok (.iload_n 2, 1) := by decide +kernel
theorem dX6_votesFor_8 : decode cX6_votesFor 8 = .ok (.if_icmp .ge 96, 3) := by decide +kernel
theorem dX6_votesFor_11 : decode cX6_votesFor 11 = .ok (.aload_n 0, 1) := by decide +kernel
theorem dX6_votesFor_12 : decode cX6_votesFor 12 = .ok (.getfield 11, 3) := by decide +kernel
theorem dX6_votesFor_15 : decode cX6_votesFor 15 = .ok (.aload_n 0, 1) := by decide +kernel
theorem dX6_votesFor_16 : decode cX6_votesFor 16 = .ok (.getfield 49, 3) := by decide +kernel
theorem dX6_votesFor_19 : decode cX6_votesFor 19 = .ok (.aaload, 1) := by decide +kernel
theorem dX6_votesFor_20 : decode cX6_votesFor 20 = .ok (.iload 4, 2) := by decide +kernel
theorem dX6_votesFor_22 : decode cX6_votesFor 22 = .ok (.iaload, 1) := by decide +kernel
theorem dX6_votesFor_23 : decode cX6_votesFor 23 = .ok (.istore 5, 2) := by decide +kernel
theorem dX6_votesFor_25 : decode cX6_votesFor 25 = .ok (.iload 5, 2) := by decide +kernel
theorem dX6_votesFor_27 : decode cX6_votesFor 27 = .ok (.iload_n 1, 1) := by decide +kernel
theorem dX6_votesFor_28 : decode cX6_votesFor 28 = .ok (.if_icmp .eq 32, 3) := by decide +kernel
theorem dX6_votesFor_31 : decode cX6_votesFor 31 = .ok (.aload_n 0, 1) := by decide +kernel
theorem dX6_votesFor_32 : decode cX6_votesFor 32 = .ok (.getfield 37, 3) := by decide +kernel
theorem dX6_votesFor_35 : decode cX6_votesFor 35 = .ok (.iload 5, 2) := by decide +kernel
theorem dX6_votesFor_37 : decode cX6_votesFor 37 = .ok (.invokevirtual 67, 3) := by decide +kernel
theorem dX6_votesFor_40 : decode cX6_votesFor 40 = .ok (.ifCond .eq 20, 3) := by decide +kernel
theorem dX6_votesFor_43 : decode cX6_votesFor 43 = .ok (.aload_n 0, 1) := by decide +kernel
theorem dX6_votesFor_44 : decode cX6_votesFor 44 = .ok (.getfield 37, 3) := by decide +kernel
theorem dX6_votesFor_47 : decode cX6_votesFor 47 = .ok (.iload 5, 2) := by decide +kernel
theorem dX6_votesFor_49 : decode cX6_votesFor 49 = .ok (.iload_n 1, 1) := by decide +kernel
theorem dX6_votesFor_50 : decode cX6_votesFor 50 = .ok (.invokevirtual 154, 3) := by decide +kernel
theorem dX6_votesFor_53 : decode cX6_votesFor 53 = .ok (.ifCond .ne 7, 3) := by decide +kernel
theorem dX6_votesFor_56 : decode cX6_votesFor 56 = .ok (.iconst 1, 1) := by decide +kernel
theorem dX6_votesFor_57 : decode cX6_votesFor 57 = .ok (.goto 4, 3) := by decide +kernel
theorem dX6_votesFor_60 : decode cX6_votesFor 60 = .ok (.iconst 0, 1) := by decide +kernel
theorem dX6_votesFor_61 : decode cX6_votesFor 61 = .ok (.istore 6, 2) := by decide +kernel
theorem dX6_votesFor_63 : decode cX6_votesFor 63 = .ok (.iload 6, 2) := by decide +kernel
theorem dX6_votesFor_65 : decode cX6_votesFor 65 = .ok (.ifCond .eq 33, 3) := by decide +kernel
theorem dX6_votesFor_68 : decode cX6_votesFor 68 = .ok (.aload_n 0, 1) := by decide +kernel
theorem dX6_votesFor_69 : decode cX6_votesFor 69 = .ok (.getfield 37, 3) := by decide +kernel
theorem dX6_votesFor_72 : decode cX6_votesFor 72 = .ok (.aload_n 0, 1) := by decide +kernel
theorem dX6_votesFor_73 : decode cX6_votesFor 73 = .ok (.getfield 37, 3) := by decide +kernel
theorem dX6_votesFor_76 : decode cX6_votesFor 76 = .ok (.iload 5, 2) := by decide +kernel
theorem dX6_votesFor_78 : decode cX6_votesFor 78 = .ok (.invokevirtual 158, 3) := by decide +kernel
theorem dX6_votesFor_81 : decode cX6_votesFor 81 = .ok (.aload_n 0, 1) := by decide +kernel
theorem dX6_votesFor_82 : decode cX6_votesFor 82 = .ok (.getfield 37, 3) := by decide +kernel
theorem dX6_votesFor_85 : decode cX6_votesFor 85 = .ok (.iload_n 1, 1) := by decide +kernel
theorem dX6_votesFor_86 : decode cX6_votesFor 86 = .ok (.invokevirtual 158, 3) := by decide +kernel
theorem dX6_votesFor_89 : decode cX6_votesFor 89 = .ok (.invokevirtual 161, 3) := by decide +kernel
theorem dX6_votesFor_92 : decode cX6_votesFor 92 = .ok (.ifCond .eq 6, 3) := by decide +kernel
theorem dX6_votesFor_95 : decode cX6_votesFor 95 = .ok (.iinc 3 1, 3) := by decide +kernel
theorem dX6_votesFor_98 : decode cX6_votesFor 98 = .ok (.iinc 4 1, 3) := by decide +kernel
theorem dX6_votesFor_101 : decode cX6_votesFor 101 = .ok (.goto (-96), 3) := by decide +kernel
theorem dX6_votesFor_104 : decode cX6_votesFor 104 = .ok (.iload_n 3, 1) := by decide +kernel
theorem dX6_votesFor_105 : decode cX6_votesFor 105 = .ok (.ireturn, 1) := by decide +kernel
theorem dX7_init_0 : decode cX7_init 0 = .ok (.aload_n 0, 1) := by decide +kernel
theorem dX7_init_1 : decode cX7_init 1 = .ok (.invokespecial 3, 3) := by decide +kernel
theorem dX7_init_4 : decode cX7_init 4 = .ok (.aload_n 0, 1) := by decide +kernel
theorem dX7_init_5 : decode cX7_init 5 = .ok (.sipush 600, 3) := by decide +kernel
theorem dX7_init_8 : decode cX7_init 8 = .ok (.newarray .int, 2) := by decide +kernel
theorem dX7_init_10 : decode cX7_init 10 = .ok (.putfield 9, 3) := by decide +kernel
theorem dX7_init_13 : decode cX7_init 13 = .ok (.aload_n 0, 1) := by decide +kernel
theorem dX7_init_14 : decode cX7_init 14 = .ok (.sipush 600, 3) := by decide +kernel
theorem dX7_init_17 : decode cX7_init 17 = .ok (.newarray .long, 2) := by decide +kernel
theorem dX7_init_19 : decode cX7_init 19 = .ok (.putfield 15, 3) := by decide +kernel
theorem dX7_init_22 : decode cX7_init 22 = .ok (.aload_n 0, 1) := by decide +kernel
theorem dX7_init_23 : decode cX7_init 23 = .ok (.sipush 1024, 3) := by decide +kernel
theorem dX7_init_26 : decode cX7_init 26 = .ok (.newarray .int, 2) := by decide +kernel
theorem dX7_init_28 : decode cX7_init 28 = .ok (.putfield 19, 3) := by decide +kernel
theorem dX7_init_31 : decode cX7_init 31 = .ok (.return_, 1) := by decide +kernel
theorem dX7_length_0 : decode cX7_length 0 = .ok (.aload_n 0, 1) := by decide +kernel
theorem dX7_length_1 : decode cX7_length 1 = .ok (.getfield 22, 3) := by decide +kernel
theorem dX7_length_4 : decode cX7_length 4 = .ok (.ireturn, 1) := by decide +kernel
set_option maxRecDepth 20000 in
theorem ggX7_clear_J7_fill_53178 : GoodIn wsX7_clear wsJ7_fill_53178 := goodIn_r _ [6] (by decide +kernel) (by decide +kernel)
set_option maxRecDepth 20000 in
theorem gX7_clear_J7_fill_53178 : GoodIn wsX7_clear (va_wsS RX7 26 yJ7_fill_53178 wsJ7_fill_53178) := goodIn_app (goodIn_of _ (by decide +kernel)) ggX7_clear_J7_fill_53178
theorem dX7_clear_0 : decode cX7_clear 0 = .ok (.aload_n 0, 1) := by decide +kernel
theorem dX7_clear_1 : decode cX7_clear 1 = .ok (.iconst 0, 1) := by decide +kernel
theorem dX7_clear_2 : decode cX7_clear 2 = .ok (.putfield 22, 3) := by decide +kernel
theorem dX7_clear_5 : decode cX7_clear 5 = .ok (.aload_n 0, 1) := by decide +kernel
theorem dX7_clear_6 : decode cX7_clear 6 = .ok (.getfield 19, 3) := by decide +kernel
theorem dX7_clear_9 : decode cX7_clear 9 = .ok (.iconst 0, 1) := by decide +kernel
theorem dX7_clear_10 : decode cX7_clear 10 = .ok (.invokestatic 26, 3) := by decide +kernel
theorem dX7_clear_13 : decode cX7_clear 13 = .ok (.return_, 1) := by decide +kernel
theorem dX7_keyAt_0 : decode cX7_keyAt 0 = .ok (.iload_n 1, 1) := by decide +kernel
theorem dX7_keyAt_1 : decode cX7_keyAt 1 = .ok (.ifCond .lt 20, 3) := by decide +kernel
theorem dX7_keyAt_4 : decode cX7_keyAt 4 = .ok (.iload_n 1, 1) := by decide +kernel
theorem dX7_keyAt_5 : decode cX7_keyAt 5 = .ok (.aload_n 0, 1) := by decide +kernel
theorem dX7_keyAt_6 : decode cX7_keyAt 6 = .ok (.getfield 22, 3) := by decide +kernel
theorem dX7_keyAt_9 : decode cX7_keyAt 9 = .ok (.if_icmp .ge 12, 3) := by decide +kernel
theorem dX7_keyAt_12 : decode cX7_keyAt 12 = .ok (.aload_n 0, 1) := by decide +kernel
theorem dX7_keyAt_13 : decode cX7_keyAt 13 = .ok (.getfield 9, 3) := by decide +kernel
theorem dX7_keyAt_16 : decode cX7_keyAt 16 = .ok (.iload_n 1, 1) := by decide +kernel
theorem dX7_keyAt_17 : decode cX7_keyAt 17 = .ok (.iaload, 1) := by decide +kernel
theorem dX7_keyAt_18 : decode cX7_keyAt 18 = .ok (.goto 4, 3) := by decide +kernel
theorem dX7_keyAt_21 : decode cX7_keyAt 21 = .ok (.iconst 0, 1) := by decide +kernel
theorem dX7_keyAt_22 : decode cX7_keyAt 22 = .ok (.ireturn, 1) := by decide +kernel
theorem dX7_waysAt_0 : decode cX7_waysAt 0 = .ok (.iload_n 1, 1) := by decide +kernel
theorem dX7_waysAt_1 : decode cX7_waysAt 1 = .ok (.ifCond .lt 20, 3) := by decide +kernel
theorem dX7_waysAt_4 : decode cX7_waysAt 4 = .ok (.iload_n 1, 1) := by decide +kernel
theorem dX7_waysAt_5 : decode cX7_waysAt 5 = .ok (.aload_n 0, 1) := by decide +kernel
theorem dX7_waysAt_6 : decode cX7_waysAt 6 = .ok (.getfield 22, 3) := by decide +kernel
theorem dX7_waysAt_9 : decode cX7_waysAt 9 = .ok (.if_icmp .ge 12, 3) := by decide +kernel
theorem dX7_waysAt_12 : decode cX7_waysAt 12 = .ok (.aload_n 0, 1) := by decide +kernel
theorem dX7_waysAt_13 : decode cX7_waysAt 13 = .ok (.getfield 15, 3) := by decide +kernel
theorem dX7_waysAt_16 : decode cX7_waysAt 16 = .ok (.iload_n 1, 1) := by decide +kernel
theorem dX7_waysAt_17 : decode cX7_waysAt 17 = .ok (.laload, 1) := by decide +kernel
theorem dX7_waysAt_18 : decode cX7_waysAt 18 = .ok (.goto 4, 3) := by decide +kernel
theorem dX7_waysAt_21 : decode cX7_waysAt 21 = .ok (.lconst 0, 1) := by decide +kernel
theorem dX7_waysAt_22 : decode cX7_waysAt 22 = .ok (.lreturn, 1) := by decide +kernel
theorem dX7_add_0 : decode cX7_add 0 = .ok (.iload_n 1, 1) := by decide +kernel
theorem dX7_add_1 : decode cX7_add 1 = .ok (.bipush 37, 2) := by decide +kernel
theorem dX7_add_3 : decode cX7_add 3 = .ok (.imul, 1) := by decide +kernel
theorem dX7_add_4 : decode cX7_add 4 = .ok (.sipush 1023, 3) := by decide +kernel
theorem dX7_add_7 : decode cX7_add 7 = .ok (.iand, 1) := by decide +kernel
theorem dX7_add_8 : decode cX7_add 8 = .ok (.istore 4, 2) := by decide +kernel
theorem dX7_add_10 : decode cX7_add 10 = .ok (.iconst 0, 1) := by decide +kernel
theorem dX7_add_11 : decode cX7_add 11 = .ok (.istore 5, 2) := by decide +kernel
theorem dX7_add_13 : decode cX7_add 13 = .ok (.iload 5, 2) := by decide +kernel
theorem dX7_add_15 : decode cX7_add 15 = .ok (.sipush 1024, 3) := by decide +kernel
theorem dX7_add_18 : decode cX7_add 18 = .ok (.if_icmp .ge 78, 3) := by decide +kernel
theorem dX7_add_21 : decode cX7_add 21 = .ok (.aload_n 0, 1) := by decide +kernel
theorem dX7_add_22 : decode cX7_add 22 = .ok (.getfield 19, 3) := by decide +kernel
theorem dX7_add_25 : decode cX7_add 25 = .ok (.iload 4, 2) := by decide +kernel
theorem dX7_add_27 : decode cX7_add 27 = .ok (.iaload, 1) := by decide +kernel
theorem dX7_add_28 : decode cX7_add 28 = .ok (.ifCond .eq 68, 3) := by decide +kernel
theorem dX7_add_31 : decode cX7_add 31 = .ok (.aload_n 0, 1) := by decide +kernel
theorem dX7_add_32 : decode cX7_add 32 = .ok (.getfield 19, 3) := by decide +kernel
theorem dX7_add_35 : decode cX7_add 35 = .ok (.iload 4, 2) := by decide +kernel
theorem dX7_add_37 : decode cX7_add 37 = .ok (.iaload, 1) := by decide +kernel
theorem dX7_add_38 : decode cX7_add 38 = .ok (.iconst 1, 1) := by decide +kernel
theorem dX7_add_39 : decode cX7_add 39 = .ok (.isub, 1) := by decide +kernel
theorem dX7_add_40 : decode cX7_add 40 = .ok (.istore 6, 2) := by decide +kernel
theorem dX7_add_42 : decode cX7_add 42 = .ok (.iload 6, 2) := by decide +kernel
theorem dX7_add_44 : decode cX7_add 44 = .ok (.ifCond .lt 36, 3) := by decide +kernel
theorem dX7_add_47 : decode cX7_add 47 = .ok (.iload 6, 2) := by decide +kernel
theorem dX7_add_49 : decode cX7_add 49 = .ok (.aload_n 0, 1) := by decide +kernel
theorem dX7_add_50 : decode cX7_add 50 = .ok (.getfield 22, 3) := by decide +kernel
theorem dX7_add_53 : decode cX7_add 53 = .ok (.if_icmp .ge 27, 3) := by decide +kernel
theorem dX7_add_56 : decode cX7_add 56 = .ok (.aload_n 0, 1) := by decide +kernel
theorem dX7_add_57 : decode cX7_add 57 = .ok (.getfield 9, 3) := by decide +kernel
theorem dX7_add_60 : decode cX7_add 60 = .ok (.iload 6, 2) := by decide +kernel
theorem dX7_add_62 : decode cX7_add 62 = .ok (.iaload, 1) := by decide +kernel
theorem dX7_add_63 : decode cX7_add 63 = .ok (.iload_n 1, 1) := by decide +kernel
theorem dX7_add_64 : decode cX7_add 64 = .ok (.if_icmp .ne 16, 3) := by decide +kernel
theorem dX7_add_67 : decode cX7_add 67 = .ok (.aload_n 0, 1) := by decide +kernel
theorem dX7_add_68 : decode cX7_add 68 = .ok (.getfield 15, 3) := by decide +kernel
theorem dX7_add_71 : decode cX7_add 71 = .ok (.iload 6, 2) := by decide +kernel
theorem dX7_add_73 : decode cX7_add 73 = .ok (.dup2, 1) := by decide +kernel
theorem dX7_add_74 : decode cX7_add 74 = .ok (.laload, 1) := by decide +kernel
theorem dX7_add_75 : decode cX7_add 75 = .ok (.lload_n 2, 1) := by decide +kernel
theorem dX7_add_76 : decode cX7_add 76 = .ok (.ladd, 1) := by decide +kernel
theorem dX7_add_77 : decode cX7_add 77 = .ok (.lastore, 1) := by decide +kernel
theorem dX7_add_78 : decode cX7_add 78 = .ok (.iconst 1, 1) := by decide +kernel
theorem dX7_add_79 : decode cX7_add 79 = .ok (.ireturn, 1) := by decide +kernel
theorem dX7_add_80 : decode cX7_add 80 = .ok (.iload 4, 2) := by decide +kernel
theorem dX7_add_82 : decode cX7_add 82 = .ok (.iconst 1, 1) := by decide +kernel
theorem dX7_add_83 : decode cX7_add 83 = .ok (.iadd, 1) := by decide +kernel
theorem dX7_add_84 : decode cX7_add 84 = .ok (.sipush 1023, 3) := by decide +kernel
theorem dX7_add_87 : decode cX7_add 87 = .ok (.iand, 1) := by decide +kernel
theorem dX7_add_88 : decode cX7_add 88 = .ok (.istore 4, 2) := by decide +kernel
theorem dX7_add_90 : decode cX7_add 90 = .ok (.iinc 5 1, 3) := by decide +kernel
theorem dX7_add_93 : decode cX7_add 93 = .ok (.goto (-80), 3) := by decide +kernel
theorem dX7_add_96 : decode cX7_add 96 = .ok (.aload_n 0, 1) := by decide +kernel
theorem dX7_add_97 : decode cX7_add 97 = .ok (.getfield 22, 3) := by decide +kernel
theorem dX7_add_100 : decode cX7_add 100 = .ok (.sipush 600, 3) := by decide +kernel
theorem dX7_add_103 : decode cX7_add 103 = .ok (.if_icmp .lt 5, 3) := by decide +kernel
theorem dX7_add_106 : decode cX7_add 106 = .ok (.iconst 0, 1) := by decide +kernel
theorem dX7_add_107 : decode cX7_add 107 = .ok (.ireturn, 1) := by decide +kernel
theorem dX7_add_108 : decode cX7_add 108 = .ok (.aload_n 0, 1) := by decide +kernel
theorem dX7_add_109 : decode cX7_add 109 = .ok (.getfield 9, 3) := by decide +kernel
theorem dX7_add_112 : decode cX7_add 112 = .ok (.aload_n 0, 1) := by decide +kernel
theorem dX7_add_113 : decode cX7_add 113 = .ok (.getfield 22, 3) := by decide +kernel
theorem dX7_add_116 : decode cX7_add 116 = .ok (.iload_n 1, 1) := by decide +kernel
theorem dX7_add_117 : decode cX7_add 117 = .ok (.iastore, 1) := by decide +kernel
