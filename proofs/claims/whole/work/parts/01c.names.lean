theorem dX0_tellKin_67 : decode cX0_tellKin 67 = .ok (.getfield 33, 3) := by decide +kernel
theorem dX0_tellKin_70 : decode cX0_tellKin 70 = .ok (.iconst 1, 1) := by decide +kernel
theorem dX0_tellKin_71 : decode cX0_tellKin 71 = .ok (.iadd, 1) := by decide +kernel
theorem dX0_tellKin_72 : decode cX0_tellKin 72 = .ok (.putfield 33, 3) := by decide +kernel
theorem dX0_tellKin_75 : decode cX0_tellKin 75 = .ok (.iconst 1, 1) := by decide +kernel
theorem dX0_tellKin_76 : decode cX0_tellKin 76 = .ok (.ireturn, 1) := by decide +kernel
set_option maxRecDepth 20000 in
theorem ggX0_setYes_X0_isParty : GoodIn wsX0_setYes wsX0_isParty := goodIn_r _ [5] (by decide +kernel) (by decide +kernel)
set_option maxRecDepth 20000 in
theorem gX0_setYes_X0_isParty : GoodIn wsX0_setYes (va_wsS RX0 40 yX0_isParty wsX0_isParty) := goodIn_app (goodIn_of _ (by decide +kernel)) ggX0_setYes_X0_isParty
theorem dX0_setYes_0 : decode cX0_setYes 0 = .ok (.iload_n 1, 1) := by decide +kernel
theorem dX0_setYes_1 : decode cX0_setYes 1 = .ok (.invokestatic 40, 3) := by decide +kernel
theorem dX0_setYes_4 : decode cX0_setYes 4 = .ok (.ifCond .eq 10, 3) := by decide +kernel
theorem dX0_setYes_7 : decode cX0_setYes 7 = .ok (.iload_n 2, 1) := by decide +kernel
theorem dX0_setYes_8 : decode cX0_setYes 8 = .ok (.invokestatic 40, 3) := by decide +kernel
theorem dX0_setYes_11 : decode cX0_setYes 11 = .ok (.ifCond .ne 5, 3) := by decide +kernel
theorem dX0_setYes_14 : decode cX0_setYes 14 = .ok (.iconst 0, 1) := by decide +kernel
theorem dX0_setYes_15 : decode cX0_setYes 15 = .ok (.ireturn, 1) := by decide +kernel
theorem dX0_setYes_16 : decode cX0_setYes 16 = .ok (.iload_n 1, 1) := by decide +kernel
theorem dX0_setYes_17 : decode cX0_setYes 17 = .ok (.iconst 4, 1) := by decide +kernel
theorem dX0_setYes_18 : decode cX0_setYes 18 = .ok (.imul, 1) := by decide +kernel
theorem dX0_setYes_19 : decode cX0_setYes 19 = .ok (.iload_n 2, 1) := by decide +kernel
theorem dX0_setYes_20 : decode cX0_setYes 20 = .ok (.iadd, 1) := by decide +kernel
theorem dX0_setYes_21 : decode cX0_setYes 21 = .ok (.istore 4, 2) := by decide +kernel
theorem dX0_setYes_23 : decode cX0_setYes 23 = .ok (.aload_n 0, 1) := by decide +kernel
theorem dX0_setYes_24 : decode cX0_setYes 24 = .ok (.getfield 22, 3) := by decide +kernel
theorem dX0_setYes_27 : decode cX0_setYes 27 = .ok (.iload 4, 2) := by decide +kernel
theorem dX0_setYes_29 : decode cX0_setYes 29 = .ok (.baload, 1) := by decide +kernel
theorem dX0_setYes_30 : decode cX0_setYes 30 = .ok (.iload_n 3, 1) := by decide +kernel
theorem dX0_setYes_31 : decode cX0_setYes 31 = .ok (.if_icmp .ne 5, 3) := by decide +kernel
theorem dX0_setYes_34 : decode cX0_setYes 34 = .ok (.iconst 0, 1) := by decide +kernel
theorem dX0_setYes_35 : decode cX0_setYes 35 = .ok (.ireturn, 1) := by decide +kernel
theorem dX0_setYes_36 : decode cX0_setYes 36 = .ok (.aload_n 0, 1) := by decide +kernel
theorem dX0_setYes_37 : decode cX0_setYes 37 = .ok (.getfield 22, 3) := by decide +kernel
theorem dX0_setYes_40 : decode cX0_setYes 40 = .ok (.iload 4, 2) := by decide +kernel
theorem dX0_setYes_42 : decode cX0_setYes 42 = .ok (.iload_n 3, 1) := by decide +kernel
theorem dX0_setYes_43 : decode cX0_setYes 43 = .ok (.bastore, 1) := by decide +kernel
theorem dX0_setYes_44 : decode cX0_setYes 44 = .ok (.iconst 1, 1) := by decide +kernel
theorem dX0_setYes_45 : decode cX0_setYes 45 = .ok (.ireturn, 1) := by decide +kernel
set_option maxRecDepth 20000 in
theorem ggX0_convert_X0_has : GoodIn wsX0_convert wsX0_has := goodIn_r _ [7, 8, 15, 16, 17, 18, 19, 20, 21] (by decide +kernel) (by decide +kernel)
set_option maxRecDepth 20000 in
theorem gX0_convert_X0_has : GoodIn wsX0_convert (wsV RX0 43 RX0 yX0_has wsX0_has) := goodIn_app (goodIn_of _ (by decide +kernel)) ggX0_convert_X0_has
set_option maxRecDepth 20000 in
theorem ggX0_convert_X0_isHouse : GoodIn wsX0_convert wsX0_isHouse := goodIn_r _ [11] (by decide +kernel) (by decide +kernel)
set_option maxRecDepth 20000 in
theorem gX0_convert_X0_isHouse : GoodIn wsX0_convert (va_wsS RX0 36 yX0_isHouse wsX0_isHouse) := goodIn_app (goodIn_of _ (by decide +kernel)) ggX0_convert_X0_isHouse
set_option maxRecDepth 20000 in
theorem ggX0_convert_X0_isParty : GoodIn wsX0_convert wsX0_isParty := goodIn_r _ [14] (by decide +kernel) (by decide +kernel)
set_option maxRecDepth 20000 in
theorem gX0_convert_X0_isParty : GoodIn wsX0_convert (va_wsS RX0 40 yX0_isParty wsX0_isParty) := goodIn_app (goodIn_of _ (by decide +kernel)) ggX0_convert_X0_isParty
theorem dX0_convert_0 : decode cX0_convert 0 = .ok (.aload_n 0, 1) := by decide +kernel
theorem dX0_convert_1 : decode cX0_convert 1 = .ok (.iload_n 1, 1) := by decide +kernel
theorem dX0_convert_2 : decode cX0_convert 2 = .ok (.invokevirtual 43, 3) := by decide +kernel
theorem dX0_convert_5 : decode cX0_convert 5 = .ok (.ifCond .eq 17, 3) := by decide +kernel
theorem dX0_convert_8 : decode cX0_convert 8 = .ok (.iload_n 2, 1) := by decide +kernel
theorem dX0_convert_9 : decode cX0_convert 9 = .ok (.invokestatic 36, 3) := by decide +kernel
theorem dX0_convert_12 : decode cX0_convert 12 = .ok (.ifCond .eq 10, 3) := by decide +kernel
theorem dX0_convert_15 : decode cX0_convert 15 = .ok (.iload_n 3, 1) := by decide +kernel
theorem dX0_convert_16 : decode cX0_convert 16 = .ok (.invokestatic 40, 3) := by decide +kernel
theorem dX0_convert_19 : decode cX0_convert 19 = .ok (.ifCond .ne 5, 3) := by decide +kernel
theorem dX0_convert_22 : decode cX0_convert 22 = .ok (.iconst 0, 1) := by decide +kernel
theorem dX0_convert_23 : decode cX0_convert 23 = .ok (.ireturn, 1) := by decide +kernel
theorem dX0_convert_24 : decode cX0_convert 24 = .ok (.aload_n 0, 1) := by decide +kernel
theorem dX0_convert_25 : decode cX0_convert 25 = .ok (.getfield 9, 3) := by decide +kernel
theorem dX0_convert_28 : decode cX0_convert 28 = .ok (.iload_n 1, 1) := by decide +kernel
theorem dX0_convert_29 : decode cX0_convert 29 = .ok (.iload_n 2, 1) := by decide +kernel
theorem dX0_convert_30 : decode cX0_convert 30 = .ok (.iastore, 1) := by decide +kernel
theorem dX0_convert_31 : decode cX0_convert 31 = .ok (.aload_n 0, 1) := by decide +kernel
theorem dX0_convert_32 : decode cX0_convert 32 = .ok (.getfield 15, 3) := by decide +kernel
theorem dX0_convert_35 : decode cX0_convert 35 = .ok (.iload_n 1, 1) := by decide +kernel
theorem dX0_convert_36 : decode cX0_convert 36 = .ok (.iload_n 3, 1) := by decide +kernel
theorem dX0_convert_37 : decode cX0_convert 37 = .ok (.iastore, 1) := by decide +kernel
theorem dX0_convert_38 : decode cX0_convert 38 = .ok (.iconst 1, 1) := by decide +kernel
theorem dX0_convert_39 : decode cX0_convert 39 = .ok (.ireturn, 1) := by decide +kernel
set_option maxRecDepth 20000 in
theorem ggX0_houseOf_X0_has : GoodIn wsX0_houseOf wsX0_has := goodIn_r _ [6, 7, 8, 9, 10, 11, 12, 13, 14] (by decide +kernel) (by decide +kernel)
set_option maxRecDepth 20000 in
theorem gX0_houseOf_X0_has : GoodIn wsX0_houseOf (wsV RX0 43 RX0 yX0_has wsX0_has) := goodIn_app (goodIn_of _ (by decide +kernel)) ggX0_houseOf_X0_has
theorem dX0_houseOf_0 : decode cX0_houseOf 0 = .ok (.aload_n 0, 1) := by decide +kernel
theorem dX0_houseOf_1 : decode cX0_houseOf 1 = .ok (.iload_n 1, 1) := by decide +kernel
theorem dX0_houseOf_2 : decode cX0_houseOf 2 = .ok (.invokevirtual 43, 3) := by decide +kernel
theorem dX0_houseOf_5 : decode cX0_houseOf 5 = .ok (.ifCond .eq 12, 3) := by decide +kernel
theorem dX0_houseOf_8 : decode cX0_houseOf 8 = .ok (.aload_n 0, 1) := by decide +kernel
theorem dX0_houseOf_9 : decode cX0_houseOf 9 = .ok (.getfield 9, 3) := by decide +kernel
theorem dX0_houseOf_12 : decode cX0_houseOf 12 = .ok (.iload_n 1, 1) := by decide +kernel
theorem dX0_houseOf_13 : decode cX0_houseOf 13 = .ok (.iaload, 1) := by decide +kernel
theorem dX0_houseOf_14 : decode cX0_houseOf 14 = .ok (.goto 4, 3) := by decide +kernel
theorem dX0_houseOf_17 : decode cX0_houseOf 17 = .ok (.iconst 0, 1) := by decide +kernel
theorem dX0_houseOf_18 : decode cX0_houseOf 18 = .ok (.ireturn, 1) := by decide +kernel
set_option maxRecDepth 20000 in
theorem ggX0_partyOf_X0_has : GoodIn wsX0_partyOf wsX0_has := goodIn_r _ [6, 7, 8, 9, 10, 11, 12, 13, 14] (by decide +kernel) (by decide +kernel)
set_option maxRecDepth 20000 in
theorem gX0_partyOf_X0_has : GoodIn wsX0_partyOf (wsV RX0 43 RX0 yX0_has wsX0_has) := goodIn_app (goodIn_of _ (by decide +kernel)) ggX0_partyOf_X0_has
theorem dX0_partyOf_0 : decode cX0_partyOf 0 = .ok (.aload_n 0, 1) := by decide +kernel
theorem dX0_partyOf_1 : decode cX0_partyOf 1 = .ok (.iload_n 1, 1) := by decide +kernel
theorem dX0_partyOf_2 : decode cX0_partyOf 2 = .ok (.invokevirtual 43, 3) := by decide +kernel
theorem dX0_partyOf_5 : decode cX0_partyOf 5 = .ok (.ifCond .eq 12, 3) := by decide +kernel
theorem dX0_partyOf_8 : decode cX0_partyOf 8 = .ok (.aload_n 0, 1) := by decide +kernel
theorem dX0_partyOf_9 : decode cX0_partyOf 9 = .ok (.getfield 15, 3) := by decide +kernel
theorem dX0_partyOf_12 : decode cX0_partyOf 12 = .ok (.iload_n 1, 1) := by decide +kernel
theorem dX0_partyOf_13 : decode cX0_partyOf 13 = .ok (.iaload, 1) := by decide +kernel
theorem dX0_partyOf_14 : decode cX0_partyOf 14 = .ok (.goto 4, 3) := by decide +kernel
theorem dX0_partyOf_17 : decode cX0_partyOf 17 = .ok (.iconst 0, 1) := by decide +kernel
theorem dX0_partyOf_18 : decode cX0_partyOf 18 = .ok (.ireturn, 1) := by decide +kernel
set_option maxRecDepth 20000 in
theorem ggX0_isThere_X0_has : GoodIn wsX0_isThere wsX0_has := goodIn_r _ [6, 7, 8, 9, 10, 11, 12, 13, 14] (by decide +kernel) (by decide +kernel)
set_option maxRecDepth 20000 in
theorem gX0_isThere_X0_has : GoodIn wsX0_isThere (wsV RX0 43 RX0 yX0_has wsX0_has) := goodIn_app (goodIn_of _ (by decide +kernel)) ggX0_isThere_X0_has
theorem dX0_isThere_0 : decode cX0_isThere 0 = .ok (.aload_n 0, 1) := by decide +kernel
theorem dX0_isThere_1 : decode cX0_isThere 1 = .ok (.iload_n 1, 1) := by decide +kernel
theorem dX0_isThere_2 : decode cX0_isThere 2 = .ok (.invokevirtual 43, 3) := by decide +kernel
theorem dX0_isThere_5 : decode cX0_isThere 5 = .ok (.ifCond .eq 16, 3) := by decide +kernel
theorem dX0_isThere_8 : decode cX0_isThere 8 = .ok (.aload_n 0, 1) := by decide +kernel
theorem dX0_isThere_9 : decode cX0_isThere 9 = .ok (.getfield 18, 3) := by decide +kernel
theorem dX0_isThere_12 : decode cX0_isThere 12 = .ok (.iload_n 1, 1) := by decide +kernel
theorem dX0_isThere_13 : decode cX0_isThere 13 = .ok (.baload, 1) := by decide +kernel
theorem dX0_isThere_14 : decode cX0_isThere 14 = .ok (.ifCond .eq 7, 3) := by decide +kernel
theorem dX0_isThere_17 : decode cX0_isThere 17 = .ok (.iconst 1, 1) := by decide +kernel
theorem dX0_isThere_18 : decode cX0_isThere 18 = .ok (.goto 4, 3) := by decide +kernel
theorem dX0_isThere_21 : decode cX0_isThere 21 = .ok (.iconst 0, 1) := by decide +kernel
theorem dX0_isThere_22 : decode cX0_isThere 22 = .ok (.ireturn, 1) := by decide +kernel
set_option maxRecDepth 20000 in
theorem ggX0_sizeThere_X0_isThere : GoodIn wsX0_sizeThere wsX0_isThere := goodIn_r _ [6, 7, 8, 9, 10, 5, 11, 1, 12, 13, 14, 15, 16, 17, 18] (by decide +kernel) (by decide +kernel)
set_option maxRecDepth 20000 in
theorem gX0_sizeThere_X0_isThere : GoodIn wsX0_sizeThere (wsV RX0 50 RX0 yX0_isThere wsX0_isThere) := goodIn_app (goodIn_of _ (by decide +kernel)) ggX0_sizeThere_X0_isThere
theorem dX0_sizeThere_0 : decode cX0_sizeThere 0 = .ok (.iconst 0, 1) := by decide +kernel
theorem dX0_sizeThere_1 : decode cX0_sizeThere 1 = .ok (.istore_n 1, 1) := by decide +kernel
theorem dX0_sizeThere_2 : decode cX0_sizeThere 2 = .ok (.iconst 0, 1) := by decide +kernel
theorem dX0_sizeThere_3 : decode cX0_sizeThere 3 = .ok (.istore_n 2, 1) := by decide +kernel
theorem dX0_sizeThere_4 : decode cX0_sizeThere 4 = .ok (.iload_n 2, 1) := by decide +kernel
theorem dX0_sizeThere_5 : decode cX0_sizeThere 5 = .ok (.aload_n 0, 1) := by decide +kernel
theorem dX0_sizeThere_6 : decode cX0_sizeThere 6 = .ok (.getfield 29, 3) := by decide +kernel
theorem dX0_sizeThere_9 : decode cX0_sizeThere 9 = .ok (.if_icmp .ge 20, 3) := by decide +kernel
theorem dX0_sizeThere_12 : decode cX0_sizeThere 12 = .ok (.aload_n 0, 1) := by decide +kernel
theorem dX0_sizeThere_13 : decode cX0_sizeThere 13 = .ok (.iload_n 2, 1) := by decide +kernel
theorem dX0_sizeThere_14 : decode cX0_sizeThere 14 = .ok (.invokevirtual 50, 3) := by decide +kernel
theorem dX0_sizeThere_17 : decode cX0_sizeThere 17 = .ok (.ifCond .eq 6, 3) := by decide +kernel
theorem dX0_sizeThere_20 : decode cX0_sizeThere 20 = .ok (.iinc 1 1, 3) := by decide +kernel
theorem dX0_sizeThere_23 : decode cX0_sizeThere 23 = .ok (.iinc 2 1, 3) := by decide +kernel
theorem dX0_sizeThere_26 : decode cX0_sizeThere 26 = .ok (.goto (-22), 3) := by decide +kernel
theorem dX0_sizeThere_29 : decode cX0_sizeThere 29 = .ok (.iload_n 1, 1) := by decide +kernel
theorem dX0_sizeThere_30 : decode cX0_sizeThere 30 = .ok (.ireturn, 1) := by decide +kernel
set_option maxRecDepth 20000 in
theorem ggX0_saysYes_X0_isParty : GoodIn wsX0_saysYes wsX0_isParty := goodIn_r _ [5] (by decide +kernel) (by decide +kernel)
set_option maxRecDepth 20000 in
theorem gX0_saysYes_X0_isParty : GoodIn wsX0_saysYes (va_wsS RX0 40 yX0_isParty wsX0_isParty) := goodIn_app (goodIn_of _ (by decide +kernel)) ggX0_saysYes_X0_isParty
theorem dX0_saysYes_0 : decode cX0_saysYes 0 = .ok (.iload_n 1, 1) := by decide +kernel
theorem dX0_saysYes_1 : decode cX0_saysYes 1 = .ok (.invokestatic 40, 3) := by decide +kernel
theorem dX0_saysYes_4 : decode cX0_saysYes 4 = .ok (.ifCond .eq 27, 3) := by decide +kernel
theorem dX0_saysYes_7 : decode cX0_saysYes 7 = .ok (.iload_n 2, 1) := by decide +kernel
theorem dX0_saysYes_8 : decode cX0_saysYes 8 = .ok (.invokestatic 40, 3) := by decide +kernel
theorem dX0_saysYes_11 : decode cX0_saysYes 11 = .ok (.ifCond .eq 20, 3) := by decide +kernel
theorem dX0_saysYes_14 : decode cX0_saysYes 14 = .ok (.aload_n 0, 1) := by decide +kernel
theorem dX0_saysYes_15 : decode cX0_saysYes 15 = .ok (.getfield 22, 3) := by decide +kernel
theorem dX0_saysYes_18 : decode cX0_saysYes 18 = .ok (.iload_n 1, 1) := by decide +kernel
theorem dX0_saysYes_19 : decode cX0_saysYes 19 = .ok (.iconst 4, 1) := by decide +kernel
theorem dX0_saysYes_20 : decode cX0_saysYes 20 = .ok (.imul, 1) := by decide +kernel
theorem dX0_saysYes_21 : decode cX0_saysYes 21 = .ok (.iload_n 2, 1) := by decide +kernel
theorem dX0_saysYes_22 : decode cX0_saysYes 22 = .ok (.iadd, 1) := by decide +kernel
theorem dX0_saysYes_23 : decode cX0_saysYes 23 = .ok (.baload, 1) := by decide +kernel
theorem dX0_saysYes_24 : decode cX0_saysYes 24 = .ok (.ifCond .eq 7, 3) := by decide +kernel
theorem dX0_saysYes_27 : decode cX0_saysYes 27 = .ok (.iconst 1, 1) := by decide +kernel
theorem dX0_saysYes_28 : decode cX0_saysYes 28 = .ok (.goto 4, 3) := by decide +kernel
theorem dX0_saysYes_31 : decode cX0_saysYes 31 = .ok (.iconst 0, 1) := by decide +kernel
theorem dX0_saysYes_32 : decode cX0_saysYes 32 = .ok (.ireturn, 1) := by decide +kernel
theorem dX0_wasTold_0 : decode cX0_wasTold 0 = .ok (.aload_n 0, 1) := by decide +kernel
theorem dX0_wasTold_1 : decode cX0_wasTold 1 = .ok (.getfield 25, 3) := by decide +kernel
theorem dX0_wasTold_4 : decode cX0_wasTold 4 = .ok (.iload_n 1, 1) := by decide +kernel
theorem dX0_wasTold_5 : decode cX0_wasTold 5 = .ok (.laload, 1) := by decide +kernel
theorem dX0_wasTold_6 : decode cX0_wasTold 6 = .ok (.iload_n 2, 1) := by decide +kernel
theorem dX0_wasTold_7 : decode cX0_wasTold 7 = .ok (.lushr, 1) := by decide +kernel
theorem dX0_wasTold_8 : decode cX0_wasTold 8 = .ok (.lconst 1, 1) := by decide +kernel
theorem dX0_wasTold_9 : decode cX0_wasTold 9 = .ok (.land, 1) := by decide +kernel
theorem dX0_wasTold_10 : decode cX0_wasTold 10 = .ok (.lconst 0, 1) := by decide +kernel
theorem dX0_wasTold_11 : decode cX0_wasTold 11 = .ok (.lcmp, 1) := by decide +kernel
theorem dX0_wasTold_12 : decode cX0_wasTold 12 = .ok (.ifCond .eq 7, 3) := by decide +kernel
theorem dX0_wasTold_15 : decode cX0_wasTold 15 = .ok (.iconst 1, 1) := by decide +kernel
theorem dX0_wasTold_16 : decode cX0_wasTold 16 = .ok (.goto 4, 3) := by decide +kernel
theorem dX0_wasTold_19 : decode cX0_wasTold 19 = .ok (.iconst 0, 1) := by decide +kernel
theorem dX0_wasTold_20 : decode cX0_wasTold 20 = .ok (.ireturn, 1) := by decide +kernel
set_option maxRecDepth 20000 in
theorem ggX0_areKin_X0_has : GoodIn wsX0_areKin wsX0_has := goodIn_r _ [6, 7, 13, 14, 15, 16, 17, 18, 19] (by decide +kernel) (by decide +kernel)
set_option maxRecDepth 20000 in
theorem gX0_areKin_X0_has : GoodIn wsX0_areKin (wsV RX0 43 RX0 yX0_has wsX0_has) := goodIn_app (goodIn_of _ (by decide +kernel)) ggX0_areKin_X0_has
set_option maxRecDepth 20000 in
theorem ggX0_areKin_X0_wasTold : GoodIn wsX0_areKin wsX0_wasTold := goodIn_r _ [11, 12, 13, 14, 15, 16, 17, 18, 19] (by decide +kernel) (by decide +kernel)
set_option maxRecDepth 20000 in
theorem gX0_areKin_X0_wasTold : GoodIn wsX0_areKin (wsV RX0 46 RX0 yX0_wasTold wsX0_wasTold) := goodIn_app (goodIn_of _ (by decide +kernel)) ggX0_areKin_X0_wasTold
theorem dX0_areKin_0 : decode cX0_areKin 0 = .ok (.aload_n 0, 1) := by decide +kernel
theorem dX0_areKin_1 : decode cX0_areKin 1 = .ok (.iload_n 1, 1) := by decide +kernel
theorem dX0_areKin_2 : decode cX0_areKin 2 = .ok (.invokevirtual 43, 3) := by decide +kernel
theorem dX0_areKin_5 : decode cX0_areKin 5 = .ok (.ifCond .eq 44, 3) := by decide +kernel
theorem dX0_areKin_8 : decode cX0_areKin 8 = .ok (.aload_n 0, 1) := by decide +kernel
theorem dX0_areKin_9 : decode cX0_areKin 9 = .ok (.iload_n 2, 1) := by decide +kernel
theorem dX0_areKin_10 : decode cX0_areKin 10 = .ok (.invokevirtual 43, 3) := by decide +kernel
theorem dX0_areKin_13 : decode cX0_areKin 13 = .ok (.ifCond .eq 36, 3) := by decide +kernel
theorem dX0_areKin_16 : decode cX0_areKin 16 = .ok (.iload_n 1, 1) := by decide +kernel
theorem dX0_areKin_17 : decode cX0_areKin 17 = .ok (.iload_n 2, 1) := by decide +kernel
theorem dX0_areKin_18 : decode cX0_areKin 18 = .ok (.if_icmp .eq 31, 3) := by decide +kernel
theorem dX0_areKin_21 : decode cX0_areKin 21 = .ok (.aload_n 0, 1) := by decide +kernel
theorem dX0_areKin_22 : decode cX0_areKin 22 = .ok (.getfield 9, 3) := by decide +kernel
theorem dX0_areKin_25 : decode cX0_areKin 25 = .ok (.iload_n 1, 1) := by decide +kernel
theorem dX0_areKin_26 : decode cX0_areKin 26 = .ok (.iaload, 1) := by decide +kernel
theorem dX0_areKin_27 : decode cX0_areKin 27 = .ok (.aload_n 0, 1) := by decide +kernel
theorem dX0_areKin_28 : decode cX0_areKin 28 = .ok (.getfield 9, 3) := by decide +kernel
theorem dX0_areKin_31 : decode cX0_areKin 31 = .ok (.iload_n 2, 1) := by decide +kernel
theorem dX0_areKin_32 : decode cX0_areKin 32 = .ok (.iaload, 1) := by decide +kernel
theorem dX0_areKin_33 : decode cX0_areKin 33 = .ok (.if_icmp .eq 12, 3) := by decide +kernel
theorem dX0_areKin_36 : decode cX0_areKin 36 = .ok (.aload_n 0, 1) := by decide +kernel
theorem dX0_areKin_37 : decode cX0_areKin 37 = .ok (.iload_n 1, 1) := by decide +kernel
theorem dX0_areKin_38 : decode cX0_areKin 38 = .ok (.iload_n 2, 1) := by decide +kernel
theorem dX0_areKin_39 : decode cX0_areKin 39 = .ok (.invokevirtual 46, 3) := by decide +kernel
theorem dX0_areKin_42 : decode cX0_areKin 42 = .ok (.ifCond .eq 7, 3) := by decide +kernel
theorem dX0_areKin_45 : decode cX0_areKin 45 = .ok (.iconst 1, 1) := by decide +kernel
theorem dX0_areKin_46 : decode cX0_areKin 46 = .ok (.goto 4, 3) := by decide +kernel
theorem dX0_areKin_49 : decode cX0_areKin 49 = .ok (.iconst 0, 1) := by decide +kernel
theorem dX0_areKin_50 : decode cX0_areKin 50 = .ok (.ireturn, 1) := by decide +kernel
set_option maxRecDepth 20000 in
theorem ggX0_kinOf_X0_areKin : GoodIn wsX0_kinOf wsX0_areKin := goodIn_r _ [6, 7, 8, 9, 10, 5, 11, 1, 12, 13, 14, 15, 16, 17, 18, 19, 20, 21, 22, 23] (by decide +kernel) (by decide +kernel)
set_option maxRecDepth 20000 in
theorem gX0_kinOf_X0_areKin : GoodIn wsX0_kinOf (wsV RX0 53 RX0 yX0_areKin wsX0_areKin) := goodIn_app (goodIn_of _ (by decide +kernel)) ggX0_kinOf_X0_areKin
theorem dX0_kinOf_0 : decode cX0_kinOf 0 = .ok (.iconst 0, 1) := by decide +kernel
theorem dX0_kinOf_1 : decode cX0_kinOf 1 = .ok (.istore_n 2, 1) := by decide +kernel
theorem dX0_kinOf_2 : decode cX0_kinOf 2 = .ok (.iconst 0, 1) := by decide +kernel
theorem dX0_kinOf_3 : decode cX0_kinOf 3 = .ok (.istore_n 3, 1) := by decide +kernel
theorem dX0_kinOf_4 : decode cX0_kinOf 4 = .ok (.iload_n 3, 1) := by decide +kernel
theorem dX0_kinOf_5 : decode cX0_kinOf 5 = .ok (.aload_n 0, 1) := by decide +kernel
theorem dX0_kinOf_6 : decode cX0_kinOf 6 = .ok (.getfield 29, 3) := by decide +kernel
theorem dX0_kinOf_9 : decode cX0_kinOf 9 = .ok (.if_icmp .ge 21, 3) := by decide +kernel
theorem dX0_kinOf_12 : decode cX0_kinOf 12 = .ok (.aload_n 0, 1) := by decide +kernel
theorem dX0_kinOf_13 : decode cX0_kinOf 13 = .ok (.iload_n 1, 1) := by decide +kernel
theorem dX0_kinOf_14 : decode cX0_kinOf 14 = .ok (.iload_n 3, 1) := by decide +kernel
theorem dX0_kinOf_15 : decode cX0_kinOf 15 = .ok (.invokevirtual 53, 3) := by decide +kernel
theorem dX0_kinOf_18 : decode cX0_kinOf 18 = .ok (.ifCond .eq 6, 3) := by decide +kernel
theorem dX0_kinOf_21 : decode cX0_kinOf 21 = .ok (.iinc 2 1, 3) := by decide +kernel
theorem dX0_kinOf_24 : decode cX0_kinOf 24 = .ok (.iinc 3 1, 3) := by decide +kernel
theorem dX0_kinOf_27 : decode cX0_kinOf 27 = .ok (.goto (-23), 3) := by decide +kernel
theorem dX0_kinOf_30 : decode cX0_kinOf 30 = .ok (.iload_n 2, 1) := by decide +kernel
theorem dX0_kinOf_31 : decode cX0_kinOf 31 = .ok (.ireturn, 1) := by decide +kernel
theorem dX1_init_0 : decode cX1_init 0 = .ok (.aload_n 0, 1) := by decide +kernel
theorem dX1_init_1 : decode cX1_init 1 = .ok (.invokespecial 3, 3) := by decide +kernel
theorem dX1_init_4 : decode cX1_init 4 = .ok (.aload_n 0, 1) := by decide +kernel
theorem dX1_init_5 : decode cX1_init 5 = .ok (.sipush 500, 3) := by decide +kernel
theorem dX1_init_8 : decode cX1_init 8 = .ok (.newarray .int, 2) := by decide +kernel
theorem dX1_init_10 : decode cX1_init 10 = .ok (.putfield 9, 3) := by decide +kernel
theorem dX1_init_13 : decode cX1_init 13 = .ok (.return_, 1) := by decide +kernel
theorem dX1_waiting_0 : decode cX1_waiting 0 = .ok (.aload_n 0, 1) := by decide +kernel
theorem dX1_waiting_1 : decode cX1_waiting 1 = .ok (.getfield 15, 3) := by decide +kernel
theorem dX1_waiting_4 : decode cX1_waiting 4 = .ok (.ireturn, 1) := by decide +kernel
theorem dX1_usedInAll_0 : decode cX1_usedInAll 0 = .ok (.aload_n 0, 1) := by decide +kernel
theorem dX1_usedInAll_1 : decode cX1_usedInAll 1 = .ok (.getfield 19, 3) := by decide +kernel
theorem dX1_usedInAll_4 : decode cX1_usedInAll 4 = .ok (.ireturn, 1) := by decide +kernel
theorem dX1_tell_0 : decode cX1_tell 0 = .ok (.aload_n 0, 1) := by decide +kernel
theorem dX1_tell_1 : decode cX1_tell 1 = .ok (.getfield 15, 3) := by decide +kernel
theorem dX1_tell_4 : decode cX1_tell 4 = .ok (.sipush 500, 3) := by decide +kernel
theorem dX1_tell_7 : decode cX1_tell 7 = .ok (.if_icmp .ge 14, 3) := by decide +kernel
theorem dX1_tell_10 : decode cX1_tell 10 = .ok (.iload_n 1, 1) := by decide +kernel
theorem dX1_tell_11 : decode cX1_tell 11 = .ok (.ifCond .lt 10, 3) := by decide +kernel
theorem dX1_tell_14 : decode cX1_tell 14 = .ok (.iload_n 1, 1) := by decide +kernel
theorem dX1_tell_15 : decode cX1_tell 15 = .ok (.sipush 10000, 3) := by decide +kernel
theorem dX1_tell_18 : decode cX1_tell 18 = .ok (.if_icmp .lt 5, 3) := by decide +kernel
theorem dX1_tell_21 : decode cX1_tell 21 = .ok (.iconst (-1), 1) := by decide +kernel
theorem dX1_tell_22 : decode cX1_tell 22 = .ok (.ireturn, 1) := by decide +kernel
theorem dX1_tell_23 : decode cX1_tell 23 = .ok (.aload_n 0, 1) := by decide +kernel
theorem dX1_tell_24 : decode cX1_tell 24 = .ok (.getfield 9, 3) := by decide +kernel
theorem dX1_tell_27 : decode cX1_tell 27 = .ok (.aload_n 0, 1) := by decide +kernel
theorem dX1_tell_28 : decode cX1_tell 28 = .ok (.getfield 22, 3) := by decide +kernel
theorem dX1_tell_31 : decode cX1_tell 31 = .ok (.aload_n 0, 1) := by decide +kernel
theorem dX1_tell_32 : decode cX1_tell 32 = .ok (.getfield 15, 3) := by decide +kernel
theorem dX1_tell_35 : decode cX1_tell 35 = .ok (.iadd, 1) := by decide +kernel
theorem dX1_tell_36 : decode cX1_tell 36 = .ok (.sipush 500, 3) := by decide +kernel
theorem dX1_tell_39 : decode cX1_tell 39 = .ok (.irem, 1) := by decide +kernel
theorem dX1_tell_40 : decode cX1_tell 40 = .ok (.iload_n 1, 1) := by decide +kernel
theorem dX1_tell_41 : decode cX1_tell 41 = .ok (.iastore, 1) := by decide +kernel
theorem dX1_tell_42 : decode cX1_tell 42 = .ok (.aload_n 0, 1) := by decide +kernel
theorem dX1_tell_43 : decode cX1_tell 43 = .ok (.dup, 1) := by decide +kernel
theorem dX1_tell_44 : decode cX1_tell 44 = .ok (.getfield 15, 3) := by decide +kernel
theorem dX1_tell_47 : decode cX1_tell 47 = .ok (.iconst 1, 1) := by decide +kernel
theorem dX1_tell_48 : decode cX1_tell 48 = .ok (.iadd, 1) := by decide +kernel
theorem dX1_tell_49 : decode cX1_tell 49 = .ok (.putfield 15, 3) := by decide +kernel
theorem dX1_tell_52 : decode cX1_tell 52 = .ok (.aload_n 0, 1) := by decide +kernel
theorem dX1_tell_53 : decode cX1_tell 53 = .ok (.getfield 15, 3) := by decide +kernel
theorem dX1_tell_56 : decode cX1_tell 56 = .ok (.ireturn, 1) := by decide +kernel
theorem dX1_at_0 : decode cX1_at 0 = .ok (.iload_n 1, 1) := by decide +kernel
theorem dX1_at_1 : decode cX1_at 1 = .ok (.ifCond .lt 29, 3) := by decide +kernel
theorem dX1_at_4 : decode cX1_at 4 = .ok (.iload_n 1, 1) := by decide +kernel
theorem dX1_at_5 : decode cX1_at 5 = .ok (.aload_n 0, 1) := by decide +kernel
theorem dX1_at_6 : decode cX1_at 6 = .ok (.getfield 15, 3) := by decide +kernel
theorem dX1_at_9 : decode cX1_at 9 = .ok (.if_icmp .ge 21, 3) := by decide +kernel
theorem dX1_at_12 : decode cX1_at 12 = .ok (.aload_n 0, 1) := by decide +kernel
theorem dX1_at_13 : decode cX1_at 13 = .ok (.getfield 9, 3) := by decide +kernel
theorem dX1_at_16 : decode cX1_at 16 = .ok (.aload_n 0, 1) := by decide +kernel
theorem dX1_at_17 : decode cX1_at 17 = .ok (.getfield 22, 3) := by decide +kernel
theorem dX1_at_20 : decode cX1_at 20 = .ok (.iload_n 1, 1) := by decide +kernel
theorem dX1_at_21 : decode cX1_at 21 = .ok (.iadd, 1) := by decide +kernel
theorem dX1_at_22 : decode cX1_at 22 = .ok (.sipush 500, 3) := by decide +kernel
theorem dX1_at_25 : decode cX1_at 25 = .ok (.irem, 1) := by decide +kernel
theorem dX1_at_26 : decode cX1_at 26 = .ok (.iaload, 1) := by decide +kernel
theorem dX1_at_27 : decode cX1_at 27 = .ok (.goto 4, 3) := by decide +kernel
theorem dX1_at_30 : decode cX1_at 30 = .ok (.iconst (-1), 1) := by decide +kernel
theorem dX1_at_31 : decode cX1_at 31 = .ok (.ireturn, 1) := by decide +kernel
set_option maxRecDepth 20000 in
theorem ggX1_seekFair_X1_at : GoodIn wsX1_seekFair wsX1_at := goodIn_r _ [10, 5, 11, 12, 13, 14, 15, 16] (by decide +kernel) (by decide +kernel)
set_option maxRecDepth 20000 in
theorem gX1_seekFair_X1_at : GoodIn wsX1_seekFair (wsV RX1 31 RX1 yX1_at wsX1_at) := goodIn_app (goodIn_of _ (by decide +kernel)) ggX1_seekFair_X1_at
theorem dX1_seekFair_0 : decode cX1_seekFair 0 = .ok (.iload_n 2, 1) := by decide +kernel
theorem dX1_seekFair_1 : decode cX1_seekFair 1 = .ok (.iconst 1, 1) := by decide +kernel
theorem dX1_seekFair_2 : decode cX1_seekFair 2 = .ok (.if_icmp .ge 5, 3) := by decide +kernel
theorem dX1_seekFair_5 : decode cX1_seekFair 5 = .ok (.iconst (-1), 1) := by decide +kernel
theorem dX1_seekFair_6 : decode cX1_seekFair 6 = .ok (.ireturn, 1) := by decide +kernel
theorem dX1_seekFair_7 : decode cX1_seekFair 7 = .ok (.iload_n 2, 1) := by decide +kernel
theorem dX1_seekFair_8 : decode cX1_seekFair 8 = .ok (.sipush 10000, 3) := by decide +kernel
theorem dX1_seekFair_11 : decode cX1_seekFair 11 = .ok (.iload_n 2, 1) := by decide +kernel
theorem dX1_seekFair_12 : decode cX1_seekFair 12 = .ok (.idiv, 1) := by decide +kernel
theorem dX1_seekFair_13 : decode cX1_seekFair 13 = .ok (.imul, 1) := by decide +kernel
theorem dX1_seekFair_14 : decode cX1_seekFair 14 = .ok (.istore_n 3, 1) := by decide +kernel
theorem dX1_seekFair_15 : decode cX1_seekFair 15 = .ok (.iload_n 1, 1) := by decide +kernel
theorem dX1_seekFair_16 : decode cX1_seekFair 16 = .ok (.iconst 0, 1) := by decide +kernel
theorem dX1_seekFair_17 : decode cX1_seekFair 17 = .ok (.invokestatic 25, 3) := by decide +kernel
theorem dX1_seekFair_20 : decode cX1_seekFair 20 = .ok (.istore 4, 2) := by decide +kernel
theorem dX1_seekFair_22 : decode cX1_seekFair 22 = .ok (.iload 4, 2) := by decide +kernel
theorem dX1_seekFair_24 : decode cX1_seekFair 24 = .ok (.aload_n 0, 1) := by decide +kernel
theorem dX1_seekFair_25 : decode cX1_seekFair 25 = .ok (.getfield 15, 3) := by decide +kernel
theorem dX1_seekFair_28 : decode cX1_seekFair 28 = .ok (.if_icmp .ge 22, 3) := by decide +kernel
theorem dX1_seekFair_31 : decode cX1_seekFair 31 = .ok (.aload_n 0, 1) := by decide +kernel
theorem dX1_seekFair_32 : decode cX1_seekFair 32 = .ok (.iload 4, 2) := by decide +kernel
theorem dX1_seekFair_34 : decode cX1_seekFair 34 = .ok (.invokevirtual 31, 3) := by decide +kernel
theorem dX1_seekFair_37 : decode cX1_seekFair 37 = .ok (.iload_n 3, 1) := by decide +kernel
theorem dX1_seekFair_38 : decode cX1_seekFair 38 = .ok (.if_icmp .ge 6, 3) := by decide +kernel
theorem dX1_seekFair_41 : decode cX1_seekFair 41 = .ok (.iload 4, 2) := by decide +kernel
theorem dX1_seekFair_43 : decode cX1_seekFair 43 = .ok (.ireturn, 1) := by decide +kernel
theorem dX1_seekFair_44 : decode cX1_seekFair 44 = .ok (.iinc 4 1, 3) := by decide +kernel
theorem dX1_seekFair_47 : decode cX1_seekFair 47 = .ok (.goto (-25), 3) := by decide +kernel
theorem dX1_seekFair_50 : decode cX1_seekFair 50 = .ok (.iconst (-1), 1) := by decide +kernel
theorem dX1_seekFair_51 : decode cX1_seekFair 51 = .ok (.ireturn, 1) := by decide +kernel
set_option maxRecDepth 20000 in
theorem ggX1_pick_X1_at : GoodIn wsX1_pick wsX1_at := goodIn_r _ [5, 6, 7, 8, 9, 10, 11, 12] (by decide +kernel) (by decide +kernel)
set_option maxRecDepth 20000 in
theorem gX1_pick_X1_at : GoodIn wsX1_pick (wsV RX1 31 RX1 yX1_at wsX1_at) := goodIn_app (goodIn_of _ (by decide +kernel)) ggX1_pick_X1_at
theorem dX1_pick_0 : decode cX1_pick 0 = .ok (.aload_n 0, 1) := by decide +kernel
theorem dX1_pick_1 : decode cX1_pick 1 = .ok (.iload_n 1, 1) := by decide +kernel
theorem dX1_pick_2 : decode cX1_pick 2 = .ok (.invokevirtual 31, 3) := by decide +kernel
theorem dX1_pick_5 : decode cX1_pick 5 = .ok (.istore_n 3, 1) := by decide +kernel
theorem dX1_pick_6 : decode cX1_pick 6 = .ok (.iload_n 2, 1) := by decide +kernel
theorem dX1_pick_7 : decode cX1_pick 7 = .ok (.iconst 1, 1) := by decide +kernel
theorem dX1_pick_8 : decode cX1_pick 8 = .ok (.if_icmp .lt 7, 3) := by decide +kernel
theorem dX1_pick_11 : decode cX1_pick 11 = .ok (.iload_n 3, 1) := by decide +kernel
theorem dX1_pick_12 : decode cX1_pick 12 = .ok (.ifCond .ge 7, 3) := by decide +kernel
theorem dX1_pick_15 : decode cX1_pick 15 = .ok (.iconst 0, 1) := by decide +kernel
theorem dX1_pick_16 : decode cX1_pick 16 = .ok (.goto 6, 3) := by decide +kernel
theorem dX1_pick_19 : decode cX1_pick 19 = .ok (.iload_n 3, 1) := by decide +kernel
theorem dX1_pick_20 : decode cX1_pick 20 = .ok (.iload_n 2, 1) := by decide +kernel
theorem dX1_pick_21 : decode cX1_pick 21 = .ok (.irem, 1) := by decide +kernel
theorem dX1_pick_22 : decode cX1_pick 22 = .ok (.ireturn, 1) := by decide +kernel
theorem dX1_use_0 : decode cX1_use 0 = .ok (.iload_n 1, 1) := by decide +kernel
theorem dX1_use_1 : decode cX1_use 1 = .ok (.ifCond .le 45, 3) := by decide +kernel
theorem dX1_use_4 : decode cX1_use 4 = .ok (.iload_n 1, 1) := by decide +kernel
theorem dX1_use_5 : decode cX1_use 5 = .ok (.aload_n 0, 1) := by decide +kernel
theorem dX1_use_6 : decode cX1_use 6 = .ok (.getfield 15, 3) := by decide +kernel
theorem dX1_use_9 : decode cX1_use 9 = .ok (.if_icmp .gt 37, 3) := by decide +kernel
theorem dX1_use_12 : decode cX1_use 12 = .ok (.aload_n 0, 1) := by decide +kernel
theorem dX1_use_13 : decode cX1_use 13 = .ok (.aload_n 0, 1) := by decide +kernel
theorem dX1_use_14 : decode cX1_use 14 = .ok (.getfield 22, 3) := by decide +kernel
theorem dX1_use_17 : decode cX1_use 17 = .ok (.iload_n 1, 1) := by decide +kernel
theorem dX1_use_18 : decode cX1_use 18 = .ok (.iadd, 1) := by decide +kernel
theorem dX1_use_19 : decode cX1_use 19 = .ok (.sipush 500, 3) := by decide +kernel
theorem dX1_use_22 : decode cX1_use 22 = .ok (.irem, 1) := by decide +kernel
theorem dX1_use_23 : decode cX1_use 23 = .ok (.putfield 22, 3) := by decide +kernel
theorem dX1_use_26 : decode cX1_use 26 = .ok (.aload_n 0, 1) := by decide +kernel
theorem dX1_use_27 : decode cX1_use 27 = .ok (.dup, 1) := by decide +kernel
theorem dX1_use_28 : decode cX1_use 28 = .ok (.getfield 15, 3) := by decide +kernel
theorem dX1_use_31 : decode cX1_use 31 = .ok (.iload_n 1, 1) := by decide +kernel
theorem dX1_use_32 : decode cX1_use 32 = .ok (.isub, 1) := by decide +kernel
theorem dX1_use_33 : decode cX1_use 33 = .ok (.putfield 15, 3) := by decide +kernel
theorem dX1_use_36 : decode cX1_use 36 = .ok (.aload_n 0, 1) := by decide +kernel
theorem dX1_use_37 : decode cX1_use 37 = .ok (.dup, 1) := by decide +kernel
theorem dX1_use_38 : decode cX1_use 38 = .ok (.getfield 19, 3) := by decide +kernel
theorem dX1_use_41 : decode cX1_use 41 = .ok (.iload_n 1, 1) := by decide +kernel
theorem dX1_use_42 : decode cX1_use 42 = .ok (.iadd, 1) := by decide +kernel
theorem dX1_use_43 : decode cX1_use 43 = .ok (.putfield 19, 3) := by decide +kernel
theorem dX1_use_46 : decode cX1_use 46 = .ok (.return_, 1) := by decide +kernel
set_option maxRecDepth 20000 in
theorem ggX2_init_X7_init : GoodIn wsX2_init wsX7_init := goodIn_r _ [25, 26, 2, 3, 7, 27, 4, 28, 29, 46, 47, 48, 49] (by decide +kernel) (by decide +kernel)
set_option maxRecDepth 20000 in
theorem gX2_init_X7_init_n46 : GoodIn wsX2_init (wsX7_init) := ggX2_init_X7_init
theorem dX2_init_0 : decode cX2_init 0 = .ok (.aload_n 0, 1) := by decide +kernel
theorem dX2_init_1 : decode cX2_init 1 = .ok (.invokespecial 3, 3) := by decide +kernel
theorem dX2_init_4 : decode cX2_init 4 = .ok (.aload_n 0, 1) := by decide +kernel
theorem dX2_init_5 : decode cX2_init 5 = .ok (.sipush 1681, 3) := by decide +kernel
theorem dX2_init_8 : decode cX2_init 8 = .ok (.newarray .long, 2) := by decide +kernel
theorem dX2_init_10 : decode cX2_init 10 = .ok (.putfield 9, 3) := by decide +kernel
theorem dX2_init_13 : decode cX2_init 13 = .ok (.aload_n 0, 1) := by decide +kernel
theorem dX2_init_14 : decode cX2_init 14 = .ok (.bipush 12, 2) := by decide +kernel
theorem dX2_init_16 : decode cX2_init 16 = .ok (.newarray .long, 2) := by decide +kernel
theorem dX2_init_18 : decode cX2_init 18 = .ok (.putfield 15, 3) := by decide +kernel
theorem dX2_init_21 : decode cX2_init 21 = .ok (.aload_n 0, 1) := by decide +kernel
theorem dX2_init_22 : decode cX2_init 22 = .ok (.iconst 4, 1) := by decide +kernel
theorem dX2_init_23 : decode cX2_init 23 = .ok (.newarray .int, 2) := by decide +kernel
theorem dX2_init_25 : decode cX2_init 25 = .ok (.putfield 18, 3) := by decide +kernel
theorem dX2_init_28 : decode cX2_init 28 = .ok (.aload_n 0, 1) := by decide +kernel
theorem dX2_init_29 : decode cX2_init 29 = .ok (.iconst 4, 1) := by decide +kernel
theorem dX2_init_30 : decode cX2_init 30 = .ok (.newarray .int, 2) := by decide +kernel
theorem dX2_init_32 : decode cX2_init 32 = .ok (.putfield 22, 3) := by decide +kernel
theorem dX2_init_35 : decode cX2_init 35 = .ok (.aload_n 0, 1) := by decide +kernel
theorem dX2_init_36 : decode cX2_init 36 = .ok (.iconst 4, 1) := by decide +kernel
theorem dX2_init_37 : decode cX2_init 37 = .ok (.newarray .boolean, 2) := by decide +kernel
theorem dX2_init_39 : decode cX2_init 39 = .ok (.putfield 25, 3) := by decide +kernel
theorem dX2_init_42 : decode cX2_init 42 = .ok (.aload_n 0, 1) := by decide +kernel
theorem dX2_init_43 : decode cX2_init 43 = .ok (.bipush 40, 2) := by decide +kernel
theorem dX2_init_45 : decode cX2_init 45 = .ok (.newarray .int, 2) := by decide +kernel
theorem dX2_init_47 : decode cX2_init 47 = .ok (.putfield 29, 3) := by decide +kernel
theorem dX2_init_50 : decode cX2_init 50 = .ok (.aload_n 0, 1) := by decide +kernel
theorem dX2_init_51 : decode cX2_init 51 = .ok (.bipush 40, 2) := by decide +kernel
theorem dX2_init_53 : decode cX2_init 53 = .ok (.newarray .int, 2) := by decide +kernel
theorem dX2_init_55 : decode cX2_init 55 = .ok (.putfield 32, 3) := by decide +kernel
theorem dX2_init_58 : decode cX2_init 58 = .ok (.aload_n 0, 1) := by decide +kernel
theorem dX2_init_59 : decode cX2_init 59 = .ok (.bipush 16, 2) := by decide +kernel
theorem dX2_init_61 : decode cX2_init 61 = .ok (.newarray .int, 2) := by decide +kernel
theorem dX2_init_63 : decode cX2_init 63 = .ok (.putfield 35, 3) := by decide +kernel
theorem dX2_init_66 : decode cX2_init 66 = .ok (.aload_n 0, 1) := by decide +kernel
theorem dX2_init_67 : decode cX2_init 67 = .ok (.bipush 42, 2) := by decide +kernel
theorem dX2_init_69 : decode cX2_init 69 = .ok (.newarray .long, 2) := by decide +kernel
theorem dX2_init_71 : decode cX2_init 71 = .ok (.putfield 38, 3) := by decide +kernel
theorem dX2_init_74 : decode cX2_init 74 = .ok (.aload_n 0, 1) := by decide +kernel
theorem dX2_init_75 : decode cX2_init 75 = .ok (.bipush 42, 2) := by decide +kernel
theorem dX2_init_77 : decode cX2_init 77 = .ok (.newarray .long, 2) := by decide +kernel
theorem dX2_init_79 : decode cX2_init 79 = .ok (.putfield 41, 3) := by decide +kernel
theorem dX2_init_82 : decode cX2_init 82 = .ok (.aload_n 0, 1) := by decide +kernel
theorem dX2_init_83 : decode cX2_init 83 = .ok (.new 44, 3) := by decide +kernel
theorem dX2_init_86 : decode cX2_init 86 = .ok (.dup, 1) := by decide +kernel
theorem dX2_init_87 : decode cX2_init 87 = .ok (.invokespecial 46, 3) := by decide +kernel
theorem dX2_init_90 : decode cX2_init 90 = .ok (.putfield 47, 3) := by decide +kernel
theorem dX2_init_93 : decode cX2_init 93 = .ok (.aload_n 0, 1) := by decide +kernel
theorem dX2_init_94 : decode cX2_init 94 = .ok (.new 44, 3) := by decide +kernel
theorem dX2_init_97 : decode cX2_init 97 = .ok (.dup, 1) := by decide +kernel
theorem dX2_init_98 : decode cX2_init 98 = .ok (.invokespecial 46, 3) := by decide +kernel
theorem dX2_init_101 : decode cX2_init 101 = .ok (.putfield 51, 3) := by decide +kernel
theorem dX2_init_104 : decode cX2_init 104 = .ok (.aload_n 0, 1) := by decide +kernel
theorem dX2_init_105 : decode cX2_init 105 = .ok (.aload_n 1, 1) := by decide +kernel
theorem dX2_init_106 : decode cX2_init 106 = .ok (.putfield 54, 3) := by decide +kernel
theorem dX2_init_109 : decode cX2_init 109 = .ok (.aload_n 0, 1) := by decide +kernel
theorem dX2_init_110 : decode cX2_init 110 = .ok (.aload_n 2, 1) := by decide +kernel
theorem dX2_init_111 : decode cX2_init 111 = .ok (.putfield 58, 3) := by decide +kernel
theorem dX2_init_114 : decode cX2_init 114 = .ok (.iconst 0, 1) := by decide +kernel
theorem dX2_init_115 : decode cX2_init 115 = .ok (.istore_n 3, 1) := by decide +kernel
theorem dX2_init_116 : decode cX2_init 116 = .ok (.iload_n 3, 1) := by decide +kernel
theorem dX2_init_117 : decode cX2_init 117 = .ok (.bipush 41, 2) := by decide +kernel
theorem dX2_init_119 : decode cX2_init 119 = .ok (.if_icmp .ge 77, 3) := by decide +kernel
theorem dX2_init_122 : decode cX2_init 122 = .ok (.aload_n 0, 1) := by decide +kernel
theorem dX2_init_123 : decode cX2_init 123 = .ok (.getfield 9, 3) := by decide +kernel
theorem dX2_init_126 : decode cX2_init 126 = .ok (.iload_n 3, 1) := by decide +kernel
theorem dX2_init_127 : decode cX2_init 127 = .ok (.bipush 41, 2) := by decide +kernel
theorem dX2_init_129 : decode cX2_init 129 = .ok (.imul, 1) := by decide +kernel
theorem dX2_init_130 : decode cX2_init 130 = .ok (.lconst 1, 1) := by decide +kernel
theorem dX2_init_131 : decode cX2_init 131 = .ok (.lastore, 1) := by decide +kernel
theorem dX2_init_132 : decode cX2_init 132 = .ok (.iconst 1, 1) := by decide +kernel
theorem dX2_init_133 : decode cX2_init 133 = .ok (.istore 4, 2) := by decide +kernel
theorem dX2_init_135 : decode cX2_init 135 = .ok (.iload 4, 2) := by decide +kernel
theorem dX2_init_137 : decode cX2_init 137 = .ok (.iload_n 3, 1) := by decide +kernel
theorem dX2_init_138 : decode cX2_init 138 = .ok (.if_icmp .gt 52, 3) := by decide +kernel
theorem dX2_init_141 : decode cX2_init 141 = .ok (.aload_n 0, 1) := by decide +kernel
theorem dX2_init_142 : decode cX2_init 142 = .ok (.getfield 9, 3) := by decide +kernel
theorem dX2_init_145 : decode cX2_init 145 = .ok (.iload_n 3, 1) := by decide +kernel
theorem dX2_init_146 : decode cX2_init 146 = .ok (.bipush 41, 2) := by decide +kernel
theorem dX2_init_148 : decode cX2_init 148 = .ok (.imul, 1) := by decide +kernel
theorem dX2_init_149 : decode cX2_init 149 = .ok (.iload 4, 2) := by decide +kernel
theorem dX2_init_151 : decode cX2_init 151 = .ok (.iadd, 1) := by decide +kernel
theorem dX2_init_152 : decode cX2_init 152 = .ok (.aload_n 0, 1) := by decide +kernel
theorem dX2_init_153 : decode cX2_init 153 = .ok (.getfield 9, 3) := by decide +kernel
theorem dX2_init_156 : decode cX2_init 156 = .ok (.iload_n 3, 1) := by decide +kernel
theorem dX2_init_157 : decode cX2_init 157 = .ok (.iconst 1, 1) := by decide +kernel
theorem dX2_init_158 : decode cX2_init 158 = .ok (.isub, 1) := by decide +kernel
theorem dX2_init_159 : decode cX2_init 159 = .ok (.bipush 41, 2) := by decide +kernel
theorem dX2_init_161 : decode cX2_init 161 = .ok (.imul, 1) := by decide +kernel
theorem dX2_init_162 : decode cX2_init 162 = .ok (.iload 4, 2) := by decide +kernel
theorem dX2_init_164 : decode cX2_init 164 = .ok (.iadd, 1) := by decide +kernel
theorem dX2_init_165 : decode cX2_init 165 = .ok (.iconst 1, 1) := by decide +kernel
theorem dX2_init_166 : decode cX2_init 166 = .ok (.isub, 1) := by decide +kernel
theorem dX2_init_167 : decode cX2_init 167 = .ok (.laload, 1) := by decide +kernel
theorem dX2_init_168 : decode cX2_init 168 = .ok (.aload_n 0, 1) := by decide +kernel
theorem dX2_init_169 : decode cX2_init 169 = .ok (.getfield 9, 3) := by decide +kernel
theorem dX2_init_172 : decode cX2_init 172 = .ok (.iload_n 3, 1) := by decide +kernel
theorem dX2_init_173 : decode cX2_init 173 = .ok (.iconst 1, 1) := by decide +kernel
theorem dX2_init_174 : decode cX2_init 174 = .ok (.isub, 1) := by decide +kernel
theorem dX2_init_175 : decode cX2_init 175 = .ok (.bipush 41, 2) := by decide +kernel
theorem dX2_init_177 : decode cX2_init 177 = .ok (.imul, 1) := by decide +kernel
theorem dX2_init_178 : decode cX2_init 178 = .ok (.iload 4, 2) := by decide +kernel
theorem dX2_init_180 : decode cX2_init 180 = .ok (.iadd, 1) := by decide +kernel
theorem dX2_init_181 : decode cX2_init 181 = .ok (.laload, 1) := by decide +kernel
theorem dX2_init_182 : decode cX2_init 182 = .ok (.ladd, 1) := by decide +kernel
theorem dX2_init_183 : decode cX2_init 183 = .ok (.lastore, 1) := by decide +kernel
theorem dX2_init_184 : decode cX2_init 184 = .ok (.iinc 4 1, 3) := by decide +kernel
theorem dX2_init_187 : decode cX2_init 187 = .ok (.goto (-52), 3) := by decide +kernel
theorem dX2_init_190 : decode cX2_init 190 = .ok (.iinc 3 1, 3) := by decide +kernel
theorem dX2_init_193 : decode cX2_init 193 = .ok (.goto (-77), 3) := by decide +kernel
theorem dX2_init_196 : decode cX2_init 196 = .ok (.return_, 1) := by decide +kernel
theorem dX2_answer_0 : decode cX2_answer 0 = .ok (.aload_n 0, 1) := by decide +kernel
theorem dX2_answer_1 : decode cX2_answer 1 = .ok (.getfield 62, 3) := by decide +kernel
theorem dX2_answer_4 : decode cX2_answer 4 = .ok (.ifCond .eq 25, 3) := by decide +kernel
theorem dX2_answer_7 : decode cX2_answer 7 = .ok (.iload_n 1, 1) := by decide +kernel
theorem dX2_answer_8 : decode cX2_answer 8 = .ok (.ifCond .lt 21, 3) := by decide +kernel
theorem dX2_answer_11 : decode cX2_answer 11 = .ok (.iload_n 1, 1) := by decide +kernel
theorem dX2_answer_12 : decode cX2_answer 12 = .ok (.aload_n 0, 1) := by decide +kernel
theorem dX2_answer_13 : decode cX2_answer 13 = .ok (.getfield 38, 3) := by decide +kernel
theorem dX2_answer_16 : decode cX2_answer 16 = .ok (.arraylength, 1) := by decide +kernel
theorem dX2_answer_17 : decode cX2_answer 17 = .ok (.if_icmp .ge 12, 3) := by decide +kernel
theorem dX2_answer_20 : decode cX2_answer 20 = .ok (.aload_n 0, 1) := by decide +kernel
theorem dX2_answer_21 : decode cX2_answer 21 = .ok (.getfield 38, 3) := by decide +kernel
theorem dX2_answer_24 : decode cX2_answer 24 = .ok (.iload_n 1, 1) := by decide +kernel
theorem dX2_answer_25 : decode cX2_answer 25 = .ok (.laload, 1) := by decide +kernel
theorem dX2_answer_26 : decode cX2_answer 26 = .ok (.goto 6, 3) := by decide +kernel
theorem dX2_answer_29 : decode cX2_answer 29 = .ok (.ldc2_w 66, 3) := by decide +kernel
theorem dX2_answer_32 : decode cX2_answer 32 = .ok (.lreturn, 1) := by decide +kernel
set_option maxRecDepth 20000 in
theorem ggX2_reckon_X6_plan : GoodIn wsX2_reckon wsX6_plan := goodIn_r _ [9, 10, 218, 219, 220, 221, 222, 223, 224, 225, 226, 227] (by decide +kernel) (by decide +kernel)
set_option maxRecDepth 20000 in
theorem gX2_reckon_X6_plan : GoodIn wsX2_reckon (wsV RX2 68 RX6 yX6_plan wsX6_plan) := goodIn_app (goodIn_of _ (by decide +kernel)) ggX2_reckon_X6_plan
set_option maxRecDepth 20000 in
theorem ggX2_reckon_X6_stepsDone : GoodIn wsX2_reckon wsX6_stepsDone := goodIn_r _ [14, 15, 218, 219, 220, 221, 222, 223, 224, 225, 226, 227] (by decide +kernel) (by decide +kernel)
set_option maxRecDepth 20000 in
theorem gX2_reckon_X6_stepsDone : GoodIn wsX2_reckon (wsV RX2 74 RX6 yX6_stepsDone wsX6_stepsDone) := goodIn_app (goodIn_of _ (by decide +kernel)) ggX2_reckon_X6_stepsDone
set_option maxRecDepth 20000 in
theorem ggX2_reckon_X3_length : GoodIn wsX2_reckon wsX3_length := goodIn_r _ [20, 21, 228, 229, 230, 231, 232] (by decide +kernel) (by decide +kernel)
set_option maxRecDepth 20000 in
theorem gX2_reckon_X3_length : GoodIn wsX2_reckon (wsV RX2 78 RX3 yX3_length wsX3_length) := goodIn_app (goodIn_of _ (by decide +kernel)) ggX2_reckon_X3_length
set_option maxRecDepth 20000 in
theorem ggX2_reckon_J7_fill_d0a16 : GoodIn wsX2_reckon wsJ7_fill_d0a16 := goodIn_r _ [25] (by decide +kernel) (by decide +kernel)
set_option maxRecDepth 20000 in
theorem gX2_reckon_J7_fill_d0a16 : GoodIn wsX2_reckon (va_wsS RX2 83 yJ7_fill_d0a16 wsJ7_fill_d0a16) := goodIn_app (goodIn_of _ (by decide +kernel)) ggX2_reckon_J7_fill_d0a16
set_option maxRecDepth 20000 in
theorem ggX2_reckon_X2_countAllWays : GoodIn wsX2_reckon wsX2_countAllWays := goodIn_r _ [30, 1, 31, 2, 32, 33, 34, 35, 36, 37, 38, 39, 8, 40, 15, 41, 42, 43, 44, 45, 46, 47, 48, 49, 50, 51, 52, 53, 54, 55, 56, 57, 58, 59, 60, 61, 62, 16, 17, 18, 19, 20, 21, 63, 64, 65, 29, 66, 67, 68, 69, 70, 71, 72, 73, 74, 75, 76, 77, 78, 79, 80, 81, 82, 83, 84, 85, 202, 203, 204, 205, 206, 207, 208, 209, 210, 211, 212, 213, 214, 215, 216, 217, 218, 219, 220, 221, 222, 223, 224, 225, 226, 227, 233, 234, 235, 236, 237, 238, 239, 228, 229, 230, 231, 232] (by decide +kernel) (by decide +kernel)
set_option maxRecDepth 20000 in
theorem gX2_reckon_X2_countAllWays : GoodIn wsX2_reckon (wsV RX2 89 RX2 yX2_countAllWays wsX2_countAllWays) := goodIn_app (goodIn_of _ (by decide +kernel)) ggX2_reckon_X2_countAllWays
set_option maxRecDepth 20000 in
theorem ggX2_reckon_X2_lookAtCity : GoodIn wsX2_reckon wsX2_lookAtCity := goodIn_r _ [89, 90, 91, 92, 93, 94, 95, 96, 97, 51, 98, 99, 100, 101, 102, 103, 49, 50, 52, 53, 104, 55, 56, 57, 58, 59, 60, 61, 62, 105, 106, 107, 108, 109, 202, 203, 204, 205, 206, 207, 208, 209, 210, 211, 212, 213, 214, 215, 216, 217, 233, 234, 235, 236, 237, 238, 239] (by decide +kernel) (by decide +kernel)
set_option maxRecDepth 20000 in
theorem gX2_reckon_X2_lookAtCity : GoodIn wsX2_reckon (wsV RX2 93 RX2 yX2_lookAtCity wsX2_lookAtCity) := goodIn_app (goodIn_of _ (by decide +kernel)) ggX2_reckon_X2_lookAtCity
set_option maxRecDepth 20000 in
theorem ggX2_reckon_X2_startFromBody : GoodIn wsX2_reckon wsX2_startFromBody := goodIn_r _ [113, 114, 1, 91, 115, 116, 117, 24, 118, 37, 38, 39, 8, 40, 15, 41, 42, 43, 44, 45, 46, 47, 48, 49, 50, 51, 52, 53, 54, 55, 56, 57, 58, 59, 60, 61, 62, 119, 120, 121, 122, 123, 105, 106, 107, 108, 109, 124, 125, 126, 29, 127, 128, 101, 102, 129, 130, 131, 132, 133, 134, 135, 136, 137, 138, 139, 140, 141, 142, 143, 144, 145, 146, 202, 203, 204, 205, 206, 207, 208, 209, 210, 211, 212, 213, 214, 215, 216, 217, 218, 219, 220, 221, 222, 223, 224, 225, 226, 227, 233, 234, 235, 236, 237, 238, 239, 240, 241, 242, 243] (by decide +kernel) (by decide +kernel)
set_option maxRecDepth 20000 in
theorem gX2_reckon_X2_startFromBody : GoodIn wsX2_reckon (wsV RX2 96 RX2 yX2_startFromBody wsX2_startFromBody) := goodIn_app (goodIn_of _ (by decide +kernel)) ggX2_reckon_X2_startFromBody
set_option maxRecDepth 20000 in
theorem ggX2_reckon_X6_bodySize : GoodIn wsX2_reckon wsX6_bodySize := goodIn_r _ [40, 15, 41, 42, 43, 44, 8, 45, 46, 47, 48, 49, 50, 51, 52, 53, 54, 55, 56, 57, 58, 59, 60, 61, 62, 218, 219, 220, 221, 222, 223, 224, 225, 226, 227, 233, 234, 235, 236, 237, 238, 239] (by decide +kernel) (by decide +kernel)
set_option maxRecDepth 20000 in
theorem gX2_reckon_X6_bodySize : GoodIn wsX2_reckon (wsV RX2 99 RX6 yX6_bodySize wsX6_bodySize) := goodIn_app (goodIn_of _ (by decide +kernel)) ggX2_reckon_X6_bodySize
set_option maxRecDepth 20000 in
theorem ggX2_reckon_X2_passStep : GoodIn wsX2_reckon wsX2_passStep := goodIn_r _ [150, 151, 115, 129, 130, 131, 132, 133, 134, 135, 136, 117, 24, 118, 152, 153, 154, 155, 156, 157, 158, 159, 145, 160, 161, 162, 29, 163, 164, 165, 166, 167, 168, 146, 169, 170, 171, 172, 2, 76, 77, 78, 19, 79, 80, 72, 73, 74, 75, 21, 67, 68, 69, 70, 71, 173, 174, 175, 176, 177, 178, 34, 179, 32, 33, 35, 114, 81, 82, 83, 84, 85, 180, 181, 182, 183, 137, 138, 139, 140, 141, 142, 143, 144, 184, 185, 186, 187, 36, 188, 189, 190, 191, 192, 193, 194, 195, 196, 90, 197, 198, 199, 200, 201, 92, 94, 93, 116, 128, 101, 51, 102, 202, 203, 204, 205, 206, 207, 208, 209, 210, 211, 212, 213, 214, 215, 216, 217, 240, 241, 242, 243, 228, 229, 230, 231, 232] (by decide +kernel) (by decide +kernel)
set_option maxRecDepth 20000 in
theorem gX2_reckon_X2_passStep : GoodIn wsX2_reckon (wsV RX2 102 RX2 yX2_passStep wsX2_passStep) := goodIn_app (goodIn_of _ (by decide +kernel)) ggX2_reckon_X2_passStep
set_option maxRecDepth 20000 in
theorem ggX2_reckon_X3_sizeOf : GoodIn wsX2_reckon wsX3_sizeOf := goodIn_r _ [79, 80, 72, 73, 74, 19, 75, 21, 228, 229, 230, 231, 232] (by decide +kernel) (by decide +kernel)
set_option maxRecDepth 20000 in
theorem gX2_reckon_X3_sizeOf : GoodIn wsX2_reckon (wsV RX2 106 RX3 yX3_sizeOf wsX3_sizeOf) := goodIn_app (goodIn_of _ (by decide +kernel)) ggX2_reckon_X3_sizeOf
theorem dX2_reckon_0 : decode cX2_reckon 0 = .ok (.aload_n 0, 1) := by decide +kernel
theorem dX2_reckon_1 : decode cX2_reckon 1 = .ok (.getfield 58, 3) := by decide +kernel
theorem dX2_reckon_4 : decode cX2_reckon 4 = .ok (.invokevirtual 68, 3) := by decide +kernel
theorem dX2_reckon_7 : decode cX2_reckon 7 = .ok (.astore_n 1, 1) := by decide +kernel
theorem dX2_reckon_8 : decode cX2_reckon 8 = .ok (.aload_n 0, 1) := by decide +kernel
theorem dX2_reckon_9 : decode cX2_reckon 9 = .ok (.getfield 58, 3) := by decide +kernel
theorem dX2_reckon_12 : decode cX2_reckon 12 = .ok (.invokevirtual 74, 3) := by decide +kernel
theorem dX2_reckon_15 : decode cX2_reckon 15 = .ok (.istore_n 2, 1) := by decide +kernel
theorem dX2_reckon_16 : decode cX2_reckon 16 = .ok (.iload_n 2, 1) := by decide +kernel
theorem dX2_reckon_17 : decode cX2_reckon 17 = .ok (.aload_n 1, 1) := by decide +kernel
theorem dX2_reckon_18 : decode cX2_reckon 18 = .ok (.invokevirtual 78, 3) := by decide +kernel
theorem dX2_reckon_21 : decode cX2_reckon 21 = .ok (.if_icmp .lt 5, 3) := by decide +kernel
theorem dX2_reckon_24 : decode cX2_reckon 24 = .ok (.iconst (-1), 1) := by decide +kernel
theorem dX2_reckon_25 : decode cX2_reckon 25 = .ok (.ireturn, 1) := by decide +kernel
theorem dX2_reckon_26 : decode cX2_reckon 26 = .ok (.aload_n 0, 1) := by decide +kernel
theorem dX2_reckon_27 : decode cX2_reckon 27 = .ok (.getfield 41, 3) := by decide +kernel
theorem dX2_reckon_30 : decode cX2_reckon 30 = .ok (.lconst 0, 1) := by decide +kernel
theorem dX2_reckon_31 : decode cX2_reckon 31 = .ok (.invokestatic 83, 3) := by decide +kernel
theorem dX2_reckon_34 : decode cX2_reckon 34 = .ok (.aload_n 0, 1) := by decide +kernel
theorem dX2_reckon_35 : decode cX2_reckon 35 = .ok (.aload_n 1, 1) := by decide +kernel
theorem dX2_reckon_36 : decode cX2_reckon 36 = .ok (.iload_n 2, 1) := by decide +kernel
theorem dX2_reckon_37 : decode cX2_reckon 37 = .ok (.invokevirtual 89, 3) := by decide +kernel
theorem dX2_reckon_40 : decode cX2_reckon 40 = .ok (.ifCond .ne 6, 3) := by decide +kernel
theorem dX2_reckon_43 : decode cX2_reckon 43 = .ok (.bipush (-2), 2) := by decide +kernel
theorem dX2_reckon_45 : decode cX2_reckon 45 = .ok (.ireturn, 1) := by decide +kernel
theorem dX2_reckon_46 : decode cX2_reckon 46 = .ok (.aload_n 0, 1) := by decide +kernel
theorem dX2_reckon_47 : decode cX2_reckon 47 = .ok (.invokevirtual 93, 3) := by decide +kernel
theorem dX2_reckon_50 : decode cX2_reckon 50 = .ok (.aload_n 0, 1) := by decide +kernel
theorem dX2_reckon_51 : decode cX2_reckon 51 = .ok (.invokevirtual 96, 3) := by decide +kernel
theorem dX2_reckon_54 : decode cX2_reckon 54 = .ok (.aload_n 0, 1) := by decide +kernel
theorem dX2_reckon_55 : decode cX2_reckon 55 = .ok (.getfield 58, 3) := by decide +kernel
theorem dX2_reckon_58 : decode cX2_reckon 58 = .ok (.invokevirtual 99, 3) := by decide +kernel
theorem dX2_reckon_61 : decode cX2_reckon 61 = .ok (.istore_n 3, 1) := by decide +kernel
theorem dX2_reckon_62 : decode cX2_reckon 62 = .ok (.iload_n 2, 1) := by decide +kernel
theorem dX2_reckon_63 : decode cX2_reckon 63 = .ok (.istore 4, 2) := by decide +kernel
theorem dX2_reckon_65 : decode cX2_reckon 65 = .ok (.iload 4, 2) := by decide +kernel
theorem dX2_reckon_67 : decode cX2_reckon 67 = .ok (.aload_n 1, 1) := by decide +kernel
theorem dX2_reckon_68 : decode cX2_reckon 68 = .ok (.invokevirtual 78, 3) := by decide +kernel
theorem dX2_reckon_71 : decode cX2_reckon 71 = .ok (.if_icmp .ge 30, 3) := by decide +kernel
theorem dX2_reckon_74 : decode cX2_reckon 74 = .ok (.aload_n 0, 1) := by decide +kernel
theorem dX2_reckon_75 : decode cX2_reckon 75 = .ok (.aload_n 1, 1) := by decide +kernel
theorem dX2_reckon_76 : decode cX2_reckon 76 = .ok (.iload 4, 2) := by decide +kernel
theorem dX2_reckon_78 : decode cX2_reckon 78 = .ok (.iload_n 3, 1) := by decide +kernel
theorem dX2_reckon_79 : decode cX2_reckon 79 = .ok (.invokevirtual 102, 3) := by decide +kernel
theorem dX2_reckon_82 : decode cX2_reckon 82 = .ok (.ifCond .ne 6, 3) := by decide +kernel
theorem dX2_reckon_85 : decode cX2_reckon 85 = .ok (.bipush (-2), 2) := by decide +kernel
theorem dX2_reckon_87 : decode cX2_reckon 87 = .ok (.ireturn, 1) := by decide +kernel
theorem dX2_reckon_88 : decode cX2_reckon 88 = .ok (.aload_n 1, 1) := by decide +kernel
theorem dX2_reckon_89 : decode cX2_reckon 89 = .ok (.iload 4, 2) := by decide +kernel
theorem dX2_reckon_91 : decode cX2_reckon 91 = .ok (.invokevirtual 106, 3) := by decide +kernel
theorem dX2_reckon_94 : decode cX2_reckon 94 = .ok (.istore_n 3, 1) := by decide +kernel
theorem dX2_reckon_95 : decode cX2_reckon 95 = .ok (.iinc 4 1, 3) := by decide +kernel
theorem dX2_reckon_98 : decode cX2_reckon 98 = .ok (.goto (-33), 3) := by decide +kernel
theorem dX2_reckon_101 : decode cX2_reckon 101 = .ok (.aload_n 0, 1) := by decide +kernel
theorem dX2_reckon_102 : decode cX2_reckon 102 = .ok (.getfield 38, 3) := by decide +kernel
theorem dX2_reckon_105 : decode cX2_reckon 105 = .ok (.astore 4, 2) := by decide +kernel
theorem dX2_reckon_107 : decode cX2_reckon 107 = .ok (.aload_n 0, 1) := by decide +kernel
theorem dX2_reckon_108 : decode cX2_reckon 108 = .ok (.aload_n 0, 1) := by decide +kernel
theorem dX2_reckon_109 : decode cX2_reckon 109 = .ok (.getfield 41, 3) := by decide +kernel
theorem dX2_reckon_112 : decode cX2_reckon 112 = .ok (.putfield 38, 3) := by decide +kernel
theorem dX2_reckon_115 : decode cX2_reckon 115 = .ok (.aload_n 0, 1) := by decide +kernel
theorem dX2_reckon_116 : decode cX2_reckon 116 = .ok (.aload 4, 2) := by decide +kernel
theorem dX2_reckon_118 : decode cX2_reckon 118 = .ok (.putfield 41, 3) := by decide +kernel
theorem dX2_reckon_121 : decode cX2_reckon 121 = .ok (.aload_n 0, 1) := by decide +kernel
theorem dX2_reckon_122 : decode cX2_reckon 122 = .ok (.iconst 1, 1) := by decide +kernel
theorem dX2_reckon_123 : decode cX2_reckon 123 = .ok (.putfield 62, 3) := by decide +kernel
theorem dX2_reckon_126 : decode cX2_reckon 126 = .ok (.iconst 0, 1) := by decide +kernel
theorem dX2_reckon_127 : decode cX2_reckon 127 = .ok (.ireturn, 1) := by decide +kernel
set_option maxRecDepth 20000 in
theorem ggX2_countAllWays_X6_bodySize : GoodIn wsX2_countAllWays wsX6_bodySize := goodIn_r _ [13, 14, 15, 16, 17, 18, 12, 19, 20, 21, 22, 23, 24, 25, 26, 27, 28, 29, 30, 31, 32, 33, 34, 35, 36, 83, 84, 85, 86, 87, 88, 89, 90, 91, 92, 93, 94, 95, 96, 97, 98, 99] (by decide +kernel) (by decide +kernel)
set_option maxRecDepth 20000 in
theorem gX2_countAllWays_X6_bodySize : GoodIn wsX2_countAllWays (wsV RX2 99 RX6 yX6_bodySize wsX6_bodySize) := goodIn_app (goodIn_of _ (by decide +kernel)) ggX2_countAllWays_X6_bodySize
set_option maxRecDepth 20000 in
theorem ggX2_countAllWays_X3_length : GoodIn wsX2_countAllWays wsX3_length := goodIn_r _ [41, 42, 100, 101, 102, 103, 104] (by decide +kernel) (by decide +kernel)
set_option maxRecDepth 20000 in
theorem gX2_countAllWays_X3_length : GoodIn wsX2_countAllWays (wsV RX2 78 RX3 yX3_length wsX3_length) := goodIn_app (goodIn_of _ (by decide +kernel)) ggX2_countAllWays_X3_length
set_option maxRecDepth 20000 in
theorem ggX2_countAllWays_X2_setsOfStep : GoodIn wsX2_countAllWays wsX2_setsOfStep := goodIn_r _ [47, 48, 49, 50, 40, 51, 52, 53, 54, 55, 56, 42, 57, 58, 59, 60, 61, 62, 63, 64, 46, 65, 66, 100, 101, 102, 103, 104, 67, 68, 69, 70, 71, 72, 73, 74, 75, 76, 77, 78, 79, 80, 81, 82] (by decide +kernel) (by decide +kernel)
set_option maxRecDepth 20000 in
theorem gX2_countAllWays_X2_setsOfStep : GoodIn wsX2_countAllWays (wsV RX2 110 RX2 yX2_setsOfStep wsX2_setsOfStep) := goodIn_app (goodIn_of _ (by decide +kernel)) ggX2_countAllWays_X2_setsOfStep
set_option maxRecDepth 20000 in
theorem ggX2_countAllWays_X3_sizeOf : GoodIn wsX2_countAllWays wsX3_sizeOf := goodIn_r _ [60, 61, 53, 54, 55, 40, 56, 42, 100, 101, 102, 103, 104] (by decide +kernel) (by decide +kernel)
set_option maxRecDepth 20000 in
theorem gX2_countAllWays_X3_sizeOf : GoodIn wsX2_countAllWays (wsV RX2 106 RX3 yX3_sizeOf wsX3_sizeOf) := goodIn_app (goodIn_of _ (by decide +kernel)) ggX2_countAllWays_X3_sizeOf
theorem dX2_countAllWays_0 : decode cX2_countAllWays 0 = .ok (.lconst 1, 1) := by decide +kernel
theorem dX2_countAllWays_1 : decode cX2_countAllWays 1 = .ok (.lstore_n 3, 1) := by decide +kernel
theorem dX2_countAllWays_2 : decode cX2_countAllWays 2 = .ok (.aload_n 0, 1) := by decide +kernel
theorem dX2_countAllWays_3 : decode cX2_countAllWays 3 = .ok (.getfield 58, 3) := by decide +kernel
theorem dX2_countAllWays_6 : decode cX2_countAllWays 6 = .ok (.invokevirtual 99, 3) := by decide +kernel
theorem dX2_countAllWays_9 : decode cX2_countAllWays 9 = .ok (.istore 5, 2) := by decide +kernel
theorem dX2_countAllWays_11 : decode cX2_countAllWays 11 = .ok (.iload_n 2, 1) := by decide +kernel
theorem dX2_countAllWays_12 : decode cX2_countAllWays 12 = .ok (.istore 6, 2) := by decide +kernel
theorem dX2_countAllWays_14 : decode cX2_countAllWays 14 = .ok (.iload 6, 2) := by decide +kernel
theorem dX2_countAllWays_16 : decode cX2_countAllWays 16 = .ok (.aload_n 1, 1) := by decide +kernel
theorem dX2_countAllWays_17 : decode cX2_countAllWays 17 = .ok (.invokevirtual 78, 3) := by decide +kernel
theorem dX2_countAllWays_20 : decode cX2_countAllWays 20 = .ok (.if_icmp .ge 52, 3) := by decide +kernel
theorem dX2_countAllWays_23 : decode cX2_countAllWays 23 = .ok (.aload_n 0, 1) := by decide +kernel
