set_option maxRecDepth 40000 in
theorem hg_wsX9_step_r5 : GoodIn lw_tbl wsX9_step_r5 := hgl_77
set_option maxRecDepth 40000 in
theorem hgl_78 : GoodIn lw_tbl [Cond.initialized RX4, Cond.code yX4_open cX4_open 1 none, Cond.fieldLink RX4 15 "ElectionHouse$Poll" "wasTried" "Z", Cond.fieldLink RX4 19 "ElectionHouse$Poll" "barred" "I", Cond.fieldLink RX4 23 "ElectionHouse$Poll" "votedOn" "I", Cond.fieldLink RX4 26 "ElectionHouse$Poll" "chosen" "I", Cond.fieldLink RX4 9 "ElectionHouse$Poll" "votes" "[I", Cond.methodLink RX4 29 yJ7_fill_53178, Cond.static yJ7_fill_53178, Cond.initialized RJ7, Cond.code yJ7_fill_53178 cJ7_fill_53178 4 none, Cond.methodLink RX6 126 yJ7_fill_53178, Cond.methodLink RX6 132 yX0_houseOf, Cond.instanceMethod yX0_houseOf, Cond.selects RX0 yX0_houseOf yX0_houseOf, Cond.code yX0_houseOf cX0_houseOf 2 (some .int), Cond.fieldLink RX0 9 "ElectionHouse$City" "houses" "[I", Cond.methodLink RX6 135 yX6_chosenOf, Cond.instanceMethod yX6_chosenOf, Cond.selects RX6 yX6_chosenOf yX6_chosenOf, Cond.code yX6_chosenOf cX6_chosenOf 2 (some .int), Cond.methodLink RX6 151 yX0_isHouse, Cond.static yX0_isHouse, Cond.code yX0_isHouse cX0_isHouse 1 (some .boolean)] := goodIn_r _ [64, 664, 174, 175, 176, 177, 173, 665, 666, 76, 667, 668, 669, 670, 671, 672, 91, 673, 675, 19, 676, 677, 364, 365] (by decide +kernel) (by decide +kernel)
set_option maxRecDepth 40000 in
theorem hg_wsX9_step_r6 : GoodIn lw_tbl wsX9_step_r6 := hgl_78
set_option maxRecDepth 40000 in
theorem hgl_79 : GoodIn lw_tbl [Cond.methodLink RX6 138 yX4_bar, Cond.instanceMethod yX4_bar, Cond.selects RX4 yX4_bar yX4_bar, Cond.code yX4_bar cX4_bar 1 none, Cond.methodLink RX6 141 yX6_votesFor, Cond.instanceMethod yX6_votesFor, Cond.selects RX6 yX6_votesFor yX6_votesFor, Cond.code yX6_votesFor cX6_votesFor 7 (some .int), Cond.methodLink RX6 154 yX0_areKin, Cond.instanceMethod yX0_areKin, Cond.selects RX0 yX0_areKin yX0_areKin, Cond.code yX0_areKin cX0_areKin 3 (some .boolean), Cond.methodLink RX0 46 yX0_wasTold, Cond.instanceMethod yX0_wasTold, Cond.selects RX0 yX0_wasTold yX0_wasTold, Cond.code yX0_wasTold cX0_wasTold 3 (some .boolean), Cond.fieldLink RX0 25 "ElectionHouse$City" "told" "[J", Cond.methodLink RX6 158 yX0_partyOf, Cond.instanceMethod yX0_partyOf, Cond.selects RX0 yX0_partyOf yX0_partyOf, Cond.code yX0_partyOf cX0_partyOf 2 (some .int), Cond.fieldLink RX0 15 "ElectionHouse$City" "parties" "[I", Cond.methodLink RX6 161 yX0_saysYes, Cond.instanceMethod yX0_saysYes] := goodIn_r _ [678, 679, 680, 681, 682, 684, 20, 685, 686, 687, 688, 689, 389, 391, 0, 392, 95, 690, 691, 692, 693, 92, 694, 695] (by decide +kernel) (by decide +kernel)
set_option maxRecDepth 40000 in
theorem hg_wsX9_step_r7 : GoodIn lw_tbl wsX9_step_r7 := hgl_79
set_option maxRecDepth 40000 in
theorem hgl_80 : GoodIn lw_tbl [Cond.selects RX0 yX0_saysYes yX0_saysYes, Cond.code yX0_saysYes cX0_saysYes 3 (some .boolean), Cond.fieldLink RX0 22 "ElectionHouse$City" "yes" "[Z", Cond.methodLink RX0 40 yX0_isParty, Cond.static yX0_isParty, Cond.code yX0_isParty cX0_isParty 1 (some .boolean), Cond.methodLink RX6 144 yX4_note, Cond.instanceMethod yX4_note, Cond.selects RX4 yX4_note yX4_note, Cond.code yX4_note cX4_note 4 none, Cond.methodLink RX6 148 yX6_countHouse, Cond.instanceMethod yX6_countHouse, Cond.selects RX6 yX6_countHouse yX6_countHouse, Cond.code yX6_countHouse cX6_countHouse 2 none, Cond.methodLink RX6 84 yX6_elect, Cond.instanceMethod yX6_elect, Cond.selects RX6 yX6_elect yX6_elect, Cond.code yX6_elect cX6_elect 2 (some .int), Cond.fieldLink RX6 33 "ElectionHouse$Session" "head" "I"] := goodIn_r _ [696, 697, 94, 366, 367, 368, 698, 699, 700, 701, 702, 704, 21, 705, 706, 708, 22, 709, 228] (by decide +kernel) (by decide +kernel)
set_option maxRecDepth 40000 in
theorem hg_wsX9_step_r8 : GoodIn lw_tbl wsX9_step_r8 := hgl_80
set_option maxRecDepth 40000 in
theorem hg_wsX9_step : GoodIn lw_tbl wsX9_step := goodIn_app (a := [.code yX9_step cX9_step 1 (some .int)]) hgl_72 (goodIn_app (goodIn_app (goodIn_app (goodIn_app (goodIn_app (goodIn_app (goodIn_app (hg_wsX9_step_r1) (goodIn_app (hg_wsX9_step_r2) (goodIn_app (hg_wsX9_step_r3) (goodIn_app (hg_wsX9_step_r4) (goodIn_app (hg_wsX9_step_r5) (goodIn_app (hg_wsX9_step_r6) (goodIn_app (hg_wsX9_step_r7) (hg_wsX9_step_r8)))))))) (hg_wsX90)) (hg_wsX60)) (hg_wsX30)) (hg_wsX00)) (hg_wsX10)) (hg_wsX40))
set_option maxRecDepth 40000 in
theorem hgl_81 : GoodIn lw_tbl [.methodLink RL 57 yX9_step, .instanceMethod yX9_step, .selects RX9 yX9_step yX9_step, .initialized RX9] := goodIn_r _ [575, 576, 577, 59] (by decide +kernel) (by decide +kernel)
set_option maxRecDepth 40000 in
theorem hL_X9_step : GoodIn lw_tbl (wsV RL 57 RX9 yX9_step wsX9_step) := goodIn_app (a := [.methodLink RL 57 yX9_step, .instanceMethod yX9_step, .selects RX9 yX9_step yX9_step, .initialized RX9]) hgl_81 hg_wsX9_step
set_option maxRecDepth 40000 in
theorem hgl_82 : GoodIn lw_tbl [.code yX10_step cX10_step 1 (some .int)] := goodIn_r _ [1144] (by decide +kernel) (by decide +kernel)
set_option maxRecDepth 40000 in
theorem hgl_83 : GoodIn lw_tbl [Cond.fieldLink RX10 171 "ElectionHouseModel" "steps" "I", Cond.fieldLink RX10 105 "ElectionHouseModel" "done" "I", Cond.fieldLink RX10 30 "ElectionHouseModel" "kind" "[I", Cond.fieldLink RX10 54 "ElectionHouseModel" "bodyMany" "[I", Cond.fieldLink RX10 33 "ElectionHouseModel" "many" "[I", Cond.fieldLink RX10 186 "ElectionHouseModel" "chosen" "I", Cond.fieldLink RX10 57 "ElectionHouseModel" "bodies" "[I", Cond.fieldLink RX10 60 "ElectionHouseModel" "elected" "I", Cond.methodLink RX10 193 yX10_draws, Cond.instanceMethod yX10_draws, Cond.selects RX10 yX10_draws yX10_draws, Cond.initialized RX10, Cond.code yX10_draws cX10_draws 9 (some .int), Cond.fieldLink RX10 76 "ElectionHouseModel" "left" "[I", Cond.fieldLink RX10 174 "ElectionHouseModel" "waiting" "I", Cond.fieldLink RX10 64 "ElectionHouseModel" "lots" "[I", Cond.fieldLink RX10 177 "ElectionHouseModel" "used" "I", Cond.methodLink RX10 196 yX10_chooses, Cond.instanceMethod yX10_chooses, Cond.selects RX10 yX10_chooses yX10_chooses, Cond.code yX10_chooses cX10_chooses 4 (some .boolean), Cond.fieldLink RX10 70 "ElectionHouseModel" "balloted" "I", Cond.fieldLink RX10 180 "ElectionHouseModel" "barred" "I", Cond.fieldLink RX10 183 "ElectionHouseModel" "asked" "I"] := goodIn_r _ [920, 929, 921, 930, 922, 947, 931, 932, 1145, 1147, 49, 69, 1148, 949, 934, 933, 935, 1149, 1151, 50, 1152, 944, 945, 946] (by decide +kernel) (by decide +kernel)
set_option maxRecDepth 40000 in
theorem hg_wsX10_step_r1 : GoodIn lw_tbl wsX10_step_r1 := hgl_83
set_option maxRecDepth 40000 in
theorem hgl_84 : GoodIn lw_tbl [Cond.fieldLink RX10 73 "ElectionHouseModel" "ballot" "[I", Cond.fieldLink RX10 98 "ElectionHouseModel" "citizens" "I", Cond.fieldLink RX10 16 "ElectionHouseModel" "isThere" "[Z", Cond.fieldLink RX10 7 "ElectionHouseModel" "house" "[I", Cond.fieldLink RX10 39 "ElectionHouseModel" "most" "[I", Cond.fieldLink RX10 36 "ElectionHouseModel" "votes" "[I", Cond.methodLink RX10 189 yX10_votesFor, Cond.instanceMethod yX10_votesFor, Cond.selects RX10 yX10_votesFor yX10_votesFor, Cond.code yX10_votesFor cX10_votesFor 5 (some .int), Cond.fieldLink RX10 20 "ElectionHouseModel" "isKin" "[Z", Cond.fieldLink RX10 23 "ElectionHouseModel" "yes" "[Z", Cond.fieldLink RX10 13 "ElectionHouseModel" "party" "[I"] := goodIn_r _ [948, 911, 914, 912, 924, 923, 1153, 1155, 51, 1156, 915, 917, 913] (by decide +kernel) (by decide +kernel)
set_option maxRecDepth 40000 in
theorem hg_wsX10_step_r2 : GoodIn lw_tbl wsX10_step_r2 := hgl_84
set_option maxRecDepth 40000 in
theorem hg_wsX10_step : GoodIn lw_tbl wsX10_step := goodIn_app (a := [.code yX10_step cX10_step 1 (some .int)]) hgl_82 (goodIn_app (goodIn_app (hg_wsX10_step_r1) (hg_wsX10_step_r2)) (hg_wsX100))
set_option maxRecDepth 40000 in
theorem hgl_85 : GoodIn lw_tbl [.methodLink RL 60 yX10_step, .instanceMethod yX10_step, .selects RX10 yX10_step yX10_step, .initialized RX10] := goodIn_r _ [1141, 1142, 1143, 69] (by decide +kernel) (by decide +kernel)
set_option maxRecDepth 40000 in
theorem hL_X10_step : GoodIn lw_tbl (wsV RL 60 RX10 yX10_step wsX10_step) := goodIn_app (a := [.methodLink RL 60 yX10_step, .instanceMethod yX10_step, .selects RX10 yX10_step yX10_step, .initialized RX10]) hgl_85 hg_wsX10_step
set_option maxRecDepth 40000 in
theorem hgl_86 : GoodIn lw_tbl [.code yX9_protest cX9_protest 2 (some .boolean)] := goodIn_r _ [713] (by decide +kernel) (by decide +kernel)
set_option maxRecDepth 40000 in
theorem hgl_87 : GoodIn lw_tbl [.fieldLink RX9 51 "ElectionHouse" "session" "LElectionHouse$Session;", .methodLink RX9 127 yX6_undoFrom, .instanceMethod yX6_undoFrom, .selects RX6 yX6_undoFrom yX6_undoFrom, .initialized RX6, .code yX6_undoFrom cX6_undoFrom 2 (some .boolean), .fieldLink RX6 49 "ElectionHouse$Session" "done" "I", .fieldLink RX6 33 "ElectionHouse$Session" "head" "I"] := goodIn_r _ [331, 714, 715, 716, 65, 717, 227, 228] (by decide +kernel) (by decide +kernel)
set_option maxRecDepth 40000 in
theorem hg_wsX9_protest : GoodIn lw_tbl wsX9_protest := goodIn_app (a := [.code yX9_protest cX9_protest 2 (some .boolean)]) hgl_86 (goodIn_app (goodIn_app (hgl_87) (hg_wsX90)) (hg_wsX60))
set_option maxRecDepth 40000 in
theorem hgl_88 : GoodIn lw_tbl [.methodLink RL 61 yX9_protest, .instanceMethod yX9_protest, .selects RX9 yX9_protest yX9_protest, .initialized RX9] := goodIn_r _ [710, 711, 712, 59] (by decide +kernel) (by decide +kernel)
set_option maxRecDepth 40000 in
theorem hL_X9_protest : GoodIn lw_tbl (wsV RL 61 RX9 yX9_protest wsX9_protest) := goodIn_app (a := [.methodLink RL 61 yX9_protest, .instanceMethod yX9_protest, .selects RX9 yX9_protest yX9_protest, .initialized RX9]) hgl_88 hg_wsX9_protest
set_option maxRecDepth 40000 in
theorem hgl_89 : GoodIn lw_tbl [.code yX10_protest cX10_protest 2 (some .boolean)] := goodIn_r _ [1160] (by decide +kernel) (by decide +kernel)
set_option maxRecDepth 40000 in
theorem hgl_90 : GoodIn lw_tbl [.fieldLink RX10 105 "ElectionHouseModel" "done" "I", .fieldLink RX10 60 "ElectionHouseModel" "elected" "I", .methodLink RX10 101 yX10_in, .static yX10_in, .initialized RX10, .code yX10_in cX10_in 3 (some .boolean), .methodLink RX10 108 yX10_begins, .instanceMethod yX10_begins, .selects RX10 yX10_begins yX10_begins, .code yX10_begins cX10_begins 2 none, .fieldLink RX10 54 "ElectionHouseModel" "bodyMany" "[I", .fieldLink RX10 98 "ElectionHouseModel" "citizens" "I", .fieldLink RX10 16 "ElectionHouseModel" "isThere" "[Z", .fieldLink RX10 57 "ElectionHouseModel" "bodies" "[I"] := goodIn_r _ [929, 932, 1066, 1067, 69, 1068, 1069, 1071, 39, 1072, 930, 911, 914, 931] (by decide +kernel) (by decide +kernel)
set_option maxRecDepth 40000 in
theorem hg_wsX10_protest : GoodIn lw_tbl wsX10_protest := goodIn_app (a := [.code yX10_protest cX10_protest 2 (some .boolean)]) hgl_89 (goodIn_app (hgl_90) (hg_wsX100))
set_option maxRecDepth 40000 in
theorem hgl_91 : GoodIn lw_tbl [.methodLink RL 65 yX10_protest, .instanceMethod yX10_protest, .selects RX10 yX10_protest yX10_protest, .initialized RX10] := goodIn_r _ [1157, 1158, 1159, 69] (by decide +kernel) (by decide +kernel)
set_option maxRecDepth 40000 in
theorem hL_X10_protest : GoodIn lw_tbl (wsV RL 65 RX10 yX10_protest wsX10_protest) := goodIn_app (a := [.methodLink RL 65 yX10_protest, .instanceMethod yX10_protest, .selects RX10 yX10_protest yX10_protest, .initialized RX10]) hgl_91 hg_wsX10_protest
set_option maxRecDepth 40000 in
theorem hgl_92 : GoodIn lw_tbl [.code yX9_body cX9_body 2 (some .int)] := goodIn_r _ [721] (by decide +kernel) (by decide +kernel)
set_option maxRecDepth 40000 in
theorem hgl_93 : GoodIn lw_tbl [Cond.fieldLink RX9 51 "ElectionHouse" "session" "LElectionHouse$Session;", Cond.methodLink RX9 130 yX6_member, Cond.instanceMethod yX6_member, Cond.selects RX6 yX6_member yX6_member, Cond.initialized RX6, Cond.code yX6_member cX6_member 2 (some .int), Cond.fieldLink RX6 11 "ElectionHouse$Session" "bodies" "[[I", Cond.fieldLink RX6 49 "ElectionHouse$Session" "done" "I", Cond.methodLink RX6 59 yX6_bodySize, Cond.instanceMethod yX6_bodySize, Cond.selects RX6 yX6_bodySize yX6_bodySize, Cond.code yX6_bodySize cX6_bodySize 1 (some .int), Cond.fieldLink RX6 16 "ElectionHouse$Session" "sizes" "[I", Cond.methodLink RX6 56 yX6_gatherFirstBody, Cond.instanceMethod yX6_gatherFirstBody, Cond.selects RX6 yX6_gatherFirstBody yX6_gatherFirstBody, Cond.code yX6_gatherFirstBody cX6_gatherFirstBody 3 none, Cond.fieldLink RX6 37 "ElectionHouse$Session" "city" "LElectionHouse$City;", Cond.methodLink RX6 62 yX0_size, Cond.instanceMethod yX0_size, Cond.selects RX0 yX0_size yX0_size, Cond.initialized RX0, Cond.code yX0_size cX0_size 1 (some .int), Cond.fieldLink RX0 29 "ElectionHouse$City" "size" "I"] := goodIn_r _ [331, 722, 723, 724, 65, 725, 222, 227, 599, 600, 601, 602, 223, 603, 605, 13, 606, 219, 607, 608, 609, 60, 610, 96] (by decide +kernel) (by decide +kernel)
set_option maxRecDepth 40000 in
theorem hg_wsX9_body_r1 : GoodIn lw_tbl wsX9_body_r1 := hgl_93
set_option maxRecDepth 40000 in
theorem hgl_94 : GoodIn lw_tbl [Cond.methodLink RX6 67 yX0_isThere, Cond.instanceMethod yX0_isThere, Cond.selects RX0 yX0_isThere yX0_isThere, Cond.code yX0_isThere cX0_isThere 2 (some .boolean), Cond.fieldLink RX0 18 "ElectionHouse$City" "present" "[Z", Cond.methodLink RX0 43 yX0_has, Cond.instanceMethod yX0_has, Cond.selects RX0 yX0_has yX0_has, Cond.code yX0_has cX0_has 2 (some .boolean)] := goodIn_r _ [611, 612, 613, 614, 93, 377, 378, 379, 380] (by decide +kernel) (by decide +kernel)
set_option maxRecDepth 40000 in
theorem hg_wsX9_body_r2 : GoodIn lw_tbl wsX9_body_r2 := hgl_94
set_option maxRecDepth 40000 in
theorem hg_wsX9_body : GoodIn lw_tbl wsX9_body := goodIn_app (a := [.code yX9_body cX9_body 2 (some .int)]) hgl_92 (goodIn_app (goodIn_app (goodIn_app (goodIn_app (hg_wsX9_body_r1) (hg_wsX9_body_r2)) (hg_wsX90)) (hg_wsX60)) (hg_wsX00))
set_option maxRecDepth 40000 in
theorem hgl_95 : GoodIn lw_tbl [.methodLink RL 66 yX9_body, .instanceMethod yX9_body, .selects RX9 yX9_body yX9_body, .initialized RX9] := goodIn_r _ [718, 719, 720, 59] (by decide +kernel) (by decide +kernel)
set_option maxRecDepth 40000 in
theorem hL_X9_body : GoodIn lw_tbl (wsV RL 66 RX9 yX9_body wsX9_body) := goodIn_app (a := [.methodLink RL 66 yX9_body, .instanceMethod yX9_body, .selects RX9 yX9_body yX9_body, .initialized RX9]) hgl_95 hg_wsX9_body
set_option maxRecDepth 40000 in
theorem hgl_96 : GoodIn lw_tbl [.code yX10_body cX10_body 2 (some .int)] := goodIn_r _ [1164] (by decide +kernel) (by decide +kernel)
set_option maxRecDepth 40000 in
theorem hgl_97 : GoodIn lw_tbl [.fieldLink RX10 57 "ElectionHouseModel" "bodies" "[I", .methodLink RX10 199 yX10_bodyNow, .instanceMethod yX10_bodyNow, .selects RX10 yX10_bodyNow yX10_bodyNow, .initialized RX10, .code yX10_bodyNow cX10_bodyNow 1 (some .int), .fieldLink RX10 54 "ElectionHouseModel" "bodyMany" "[I", .methodLink RX10 202 yX10_row, .instanceMethod yX10_row, .selects RX10 yX10_row yX10_row, .code yX10_row cX10_row 1 (some .int), .fieldLink RX10 105 "ElectionHouseModel" "done" "I", .fieldLink RX10 30 "ElectionHouseModel" "kind" "[I", .methodLink RX10 101 yX10_in, .static yX10_in, .code yX10_in cX10_in 3 (some .boolean)] := goodIn_r _ [931, 1165, 1167, 52, 69, 1168, 930, 1169, 1171, 53, 1172, 929, 921, 1066, 1067, 1068] (by decide +kernel) (by decide +kernel)
set_option maxRecDepth 40000 in
theorem hg_wsX10_body : GoodIn lw_tbl wsX10_body := goodIn_app (a := [.code yX10_body cX10_body 2 (some .int)]) hgl_96 (goodIn_app (hgl_97) (hg_wsX100))
set_option maxRecDepth 40000 in
theorem hgl_98 : GoodIn lw_tbl [.methodLink RL 69 yX10_body, .instanceMethod yX10_body, .selects RX10 yX10_body yX10_body, .initialized RX10] := goodIn_r _ [1161, 1162, 1163, 69] (by decide +kernel) (by decide +kernel)
set_option maxRecDepth 40000 in
theorem hL_X10_body : GoodIn lw_tbl (wsV RL 69 RX10 yX10_body wsX10_body) := goodIn_app (a := [.methodLink RL 69 yX10_body, .instanceMethod yX10_body, .selects RX10 yX10_body yX10_body, .initialized RX10]) hgl_98 hg_wsX10_body
set_option maxRecDepth 40000 in
theorem hgl_99 : GoodIn lw_tbl [.code yX9_ballot cX9_ballot 2 (some .int)] := goodIn_r _ [729] (by decide +kernel) (by decide +kernel)
set_option maxRecDepth 40000 in
theorem hgl_100 : GoodIn lw_tbl [.fieldLink RX9 42 "ElectionHouse" "poll" "LElectionHouse$Poll;", .methodLink RX9 133 yX4_answer, .instanceMethod yX4_answer, .selects RX4 yX4_answer yX4_answer, .initialized RX4, .code yX4_answer cX4_answer 2 (some .int), .fieldLink RX4 15 "ElectionHouse$Poll" "wasTried" "Z", .fieldLink RX4 19 "ElectionHouse$Poll" "barred" "I", .fieldLink RX4 23 "ElectionHouse$Poll" "votedOn" "I", .fieldLink RX4 26 "ElectionHouse$Poll" "chosen" "I", .methodLink RX4 35 yX4_votesAt, .instanceMethod yX4_votesAt, .selects RX4 yX4_votesAt yX4_votesAt, .code yX4_votesAt cX4_votesAt 3 (some .int), .fieldLink RX4 9 "ElectionHouse$Poll" "votes" "[I"] := goodIn_r _ [330, 730, 731, 732, 64, 733, 174, 175, 176, 177, 734, 736, 23, 737, 173] (by decide +kernel) (by decide +kernel)
set_option maxRecDepth 40000 in
theorem hg_wsX9_ballot : GoodIn lw_tbl wsX9_ballot := goodIn_app (a := [.code yX9_ballot cX9_ballot 2 (some .int)]) hgl_99 (goodIn_app (goodIn_app (hgl_100) (hg_wsX90)) (hg_wsX40))
set_option maxRecDepth 40000 in
theorem hgl_101 : GoodIn lw_tbl [.methodLink RL 70 yX9_ballot, .instanceMethod yX9_ballot, .selects RX9 yX9_ballot yX9_ballot, .initialized RX9] := goodIn_r _ [726, 727, 728, 59] (by decide +kernel) (by decide +kernel)
set_option maxRecDepth 40000 in
theorem hL_X9_ballot : GoodIn lw_tbl (wsV RL 70 RX9 yX9_ballot wsX9_ballot) := goodIn_app (a := [.methodLink RL 70 yX9_ballot, .instanceMethod yX9_ballot, .selects RX9 yX9_ballot yX9_ballot, .initialized RX9]) hgl_101 hg_wsX9_ballot
set_option maxRecDepth 40000 in
theorem hgl_102 : GoodIn lw_tbl [.code yX10_ballot cX10_ballot 2 (some .int)] := goodIn_r _ [1176] (by decide +kernel) (by decide +kernel)
set_option maxRecDepth 40000 in
theorem hgl_103 : GoodIn lw_tbl [.fieldLink RX10 70 "ElectionHouseModel" "balloted" "I", .fieldLink RX10 73 "ElectionHouseModel" "ballot" "[I", .fieldLink RX10 180 "ElectionHouseModel" "barred" "I", .fieldLink RX10 183 "ElectionHouseModel" "asked" "I", .fieldLink RX10 186 "ElectionHouseModel" "chosen" "I", .methodLink RX10 101 yX10_in, .static yX10_in, .initialized RX10, .code yX10_in cX10_in 3 (some .boolean)] := goodIn_r _ [944, 948, 945, 946, 947, 1066, 1067, 69, 1068] (by decide +kernel) (by decide +kernel)
set_option maxRecDepth 40000 in
theorem hg_wsX10_ballot : GoodIn lw_tbl wsX10_ballot := goodIn_app (a := [.code yX10_ballot cX10_ballot 2 (some .int)]) hgl_102 (goodIn_app (hgl_103) (hg_wsX100))
set_option maxRecDepth 40000 in
theorem hgl_104 : GoodIn lw_tbl [.methodLink RL 73 yX10_ballot, .instanceMethod yX10_ballot, .selects RX10 yX10_ballot yX10_ballot, .initialized RX10] := goodIn_r _ [1173, 1174, 1175, 69] (by decide +kernel) (by decide +kernel)
set_option maxRecDepth 40000 in
theorem hL_X10_ballot : GoodIn lw_tbl (wsV RL 73 RX10 yX10_ballot wsX10_ballot) := goodIn_app (a := [.methodLink RL 73 yX10_ballot, .instanceMethod yX10_ballot, .selects RX10 yX10_ballot yX10_ballot, .initialized RX10]) hgl_104 hg_wsX10_ballot
set_option maxRecDepth 40000 in
theorem hgl_105 : GoodIn lw_tbl [.code yX9_elected cX9_elected 1 (some .int)] := goodIn_r _ [741] (by decide +kernel) (by decide +kernel)
set_option maxRecDepth 40000 in
theorem hgl_106 : GoodIn lw_tbl [.fieldLink RX9 51 "ElectionHouse" "session" "LElectionHouse$Session;", .methodLink RX9 136 yX6_head, .instanceMethod yX6_head, .selects RX6 yX6_head yX6_head, .initialized RX6, .code yX6_head cX6_head 1 (some .int), .fieldLink RX6 33 "ElectionHouse$Session" "head" "I"] := goodIn_r _ [331, 742, 743, 744, 65, 745, 228] (by decide +kernel) (by decide +kernel)
set_option maxRecDepth 40000 in
theorem hg_wsX9_elected : GoodIn lw_tbl wsX9_elected := goodIn_app (a := [.code yX9_elected cX9_elected 1 (some .int)]) hgl_105 (goodIn_app (goodIn_app (hgl_106) (hg_wsX90)) (hg_wsX60))
set_option maxRecDepth 40000 in
theorem hgl_107 : GoodIn lw_tbl [.methodLink RL 74 yX9_elected, .instanceMethod yX9_elected, .selects RX9 yX9_elected yX9_elected, .initialized RX9] := goodIn_r _ [738, 739, 740, 59] (by decide +kernel) (by decide +kernel)
set_option maxRecDepth 40000 in
theorem hL_X9_elected : GoodIn lw_tbl (wsV RL 74 RX9 yX9_elected wsX9_elected) := goodIn_app (a := [.methodLink RL 74 yX9_elected, .instanceMethod yX9_elected, .selects RX9 yX9_elected yX9_elected, .initialized RX9]) hgl_107 hg_wsX9_elected
set_option maxRecDepth 40000 in
theorem hgl_108 : GoodIn lw_tbl [.code yX10_elected cX10_elected 1 (some .int)] := goodIn_r _ [1180] (by decide +kernel) (by decide +kernel)
set_option maxRecDepth 40000 in
theorem hgl_109 : GoodIn lw_tbl [.fieldLink RX10 60 "ElectionHouseModel" "elected" "I"] := goodIn_r _ [932] (by decide +kernel) (by decide +kernel)
set_option maxRecDepth 40000 in
theorem hg_wsX10_elected : GoodIn lw_tbl wsX10_elected := goodIn_app (a := [.code yX10_elected cX10_elected 1 (some .int)]) hgl_108 (goodIn_app (hgl_109) (hg_wsX100))
set_option maxRecDepth 40000 in
theorem hgl_110 : GoodIn lw_tbl [.methodLink RL 77 yX10_elected, .instanceMethod yX10_elected, .selects RX10 yX10_elected yX10_elected, .initialized RX10] := goodIn_r _ [1177, 1178, 1179, 69] (by decide +kernel) (by decide +kernel)
set_option maxRecDepth 40000 in
theorem hL_X10_elected : GoodIn lw_tbl (wsV RL 77 RX10 yX10_elected wsX10_elected) := goodIn_app (a := [.methodLink RL 77 yX10_elected, .instanceMethod yX10_elected, .selects RX10 yX10_elected yX10_elected, .initialized RX10]) hgl_110 hg_wsX10_elected
set_option maxRecDepth 40000 in
theorem hgl_111 : GoodIn lw_tbl [.code yX9_chances cX9_chances 1 (some .int)] := goodIn_r _ [749] (by decide +kernel) (by decide +kernel)
set_option maxRecDepth 40000 in
theorem hgl_112 : GoodIn lw_tbl [Cond.fieldLink RX9 60 "ElectionHouse" "odds" "LElectionHouse$Odds;", Cond.methodLink RX9 139 yX2_reckon, Cond.instanceMethod yX2_reckon, Cond.selects RX2 yX2_reckon yX2_reckon, Cond.initialized RX2, Cond.code yX2_reckon cX2_reckon 5 (some .int), Cond.fieldLink RX2 58 "ElectionHouse$Odds" "session" "LElectionHouse$Session;", Cond.fieldLink RX2 41 "ElectionHouse$Odds" "scratch" "[J", Cond.fieldLink RX2 38 "ElectionHouse$Odds" "result" "[J", Cond.fieldLink RX2 62 "ElectionHouse$Odds" "isCounted" "Z", Cond.methodLink RX2 68 yX6_plan, Cond.instanceMethod yX6_plan, Cond.selects RX6 yX6_plan yX6_plan, Cond.initialized RX6, Cond.code yX6_plan cX6_plan 1 (some (.object "ElectionHouse$Plan")), Cond.fieldLink RX6 29 "ElectionHouse$Session" "plan" "LElectionHouse$Plan;", Cond.methodLink RX2 74 yX6_stepsDone, Cond.instanceMethod yX6_stepsDone, Cond.selects RX6 yX6_stepsDone yX6_stepsDone, Cond.code yX6_stepsDone cX6_stepsDone 1 (some .int), Cond.fieldLink RX6 49 "ElectionHouse$Session" "done" "I", Cond.methodLink RX2 78 yX3_length, Cond.instanceMethod yX3_length, Cond.selects RX3 yX3_length yX3_length] := goodIn_r _ [332, 750, 751, 752, 67, 753, 276, 287, 286, 290, 754, 755, 756, 65, 757, 226, 758, 356, 357, 358, 227, 759, 563, 564] (by decide +kernel) (by decide +kernel)
