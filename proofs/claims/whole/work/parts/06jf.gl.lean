set_option maxRecDepth 40000 in
theorem hg_wsX10_ways : GoodIn lw_tbl wsX10_ways := goodIn_app (a := [.code yX10_ways cX10_ways 2 (some .long)]) hgl_130 (goodIn_app (hgl_131) (hg_wsX100))
set_option maxRecDepth 40000 in
theorem hgl_132 : GoodIn lw_tbl [.methodLink RL 86 yX10_ways, .instanceMethod yX10_ways, .selects RX10 yX10_ways yX10_ways, .initialized RX10] := goodIn_r _ [1216, 1217, 1218, 69] (by decide +kernel) (by decide +kernel)
set_option maxRecDepth 40000 in
theorem hL_X10_ways : GoodIn lw_tbl (wsV RL 86 RX10 yX10_ways wsX10_ways) := goodIn_app (a := [.methodLink RL 86 yX10_ways, .instanceMethod yX10_ways, .selects RX10 yX10_ways yX10_ways, .initialized RX10]) hgl_132 hg_wsX10_ways
set_option maxRecDepth 40000 in
theorem hgl_133 : GoodIn lw_tbl [.code yX9_about cX9_about 3 (some .int)] := goodIn_r _ [872] (by decide +kernel) (by decide +kernel)
set_option maxRecDepth 40000 in
theorem hgl_134 : GoodIn lw_tbl [Cond.fieldLink RX9 12 "ElectionHouse" "city" "LElectionHouse$City;", Cond.methodLink RX9 145 yX0_has, Cond.instanceMethod yX0_has, Cond.selects RX0 yX0_has yX0_has, Cond.initialized RX0, Cond.code yX0_has cX0_has 2 (some .boolean), Cond.fieldLink RX0 29 "ElectionHouse$City" "size" "I", Cond.methodLink RX9 148 yX0_houseOf, Cond.instanceMethod yX0_houseOf, Cond.selects RX0 yX0_houseOf yX0_houseOf, Cond.code yX0_houseOf cX0_houseOf 2 (some .int), Cond.fieldLink RX0 9 "ElectionHouse$City" "houses" "[I", Cond.methodLink RX0 43 yX0_has, Cond.methodLink RX9 151 yX0_partyOf, Cond.instanceMethod yX0_partyOf, Cond.selects RX0 yX0_partyOf yX0_partyOf, Cond.code yX0_partyOf cX0_partyOf 2 (some .int), Cond.fieldLink RX0 15 "ElectionHouse$City" "parties" "[I", Cond.methodLink RX9 154 yX0_isThere, Cond.instanceMethod yX0_isThere, Cond.selects RX0 yX0_isThere yX0_isThere, Cond.code yX0_isThere cX0_isThere 2 (some .boolean), Cond.fieldLink RX0 18 "ElectionHouse$City" "present" "[Z", Cond.methodLink RX9 157 yX0_kinOf] := goodIn_r _ [326, 873, 378, 379, 60, 380, 96, 874, 670, 671, 672, 91, 377, 875, 691, 692, 693, 92, 876, 612, 613, 614, 93, 877] (by decide +kernel) (by decide +kernel)
set_option maxRecDepth 40000 in
theorem hg_wsX9_about_r1 : GoodIn lw_tbl wsX9_about_r1 := hgl_134
set_option maxRecDepth 40000 in
theorem hgl_135 : GoodIn lw_tbl [Cond.instanceMethod yX0_kinOf, Cond.selects RX0 yX0_kinOf yX0_kinOf, Cond.code yX0_kinOf cX0_kinOf 4 (some .int), Cond.methodLink RX0 53 yX0_areKin, Cond.instanceMethod yX0_areKin, Cond.selects RX0 yX0_areKin yX0_areKin, Cond.code yX0_areKin cX0_areKin 3 (some .boolean), Cond.methodLink RX0 46 yX0_wasTold, Cond.instanceMethod yX0_wasTold, Cond.selects RX0 yX0_wasTold yX0_wasTold, Cond.code yX0_wasTold cX0_wasTold 3 (some .boolean), Cond.fieldLink RX0 25 "ElectionHouse$City" "told" "[J"] := goodIn_r _ [878, 879, 880, 881, 687, 688, 689, 389, 391, 0, 392, 95] (by decide +kernel) (by decide +kernel)
set_option maxRecDepth 40000 in
theorem hg_wsX9_about_r2 : GoodIn lw_tbl wsX9_about_r2 := hgl_135
set_option maxRecDepth 40000 in
theorem hg_wsX9_about : GoodIn lw_tbl wsX9_about := goodIn_app (a := [.code yX9_about cX9_about 3 (some .int)]) hgl_133 (goodIn_app (goodIn_app (goodIn_app (hg_wsX9_about_r1) (hg_wsX9_about_r2)) (hg_wsX90)) (hg_wsX00))
set_option maxRecDepth 40000 in
theorem hgl_136 : GoodIn lw_tbl [.methodLink RL 87 yX9_about, .instanceMethod yX9_about, .selects RX9 yX9_about yX9_about, .initialized RX9] := goodIn_r _ [869, 870, 871, 59] (by decide +kernel) (by decide +kernel)
set_option maxRecDepth 40000 in
theorem hL_X9_about : GoodIn lw_tbl (wsV RL 87 RX9 yX9_about wsX9_about) := goodIn_app (a := [.methodLink RL 87 yX9_about, .instanceMethod yX9_about, .selects RX9 yX9_about yX9_about, .initialized RX9]) hgl_136 hg_wsX9_about
set_option maxRecDepth 40000 in
theorem hgl_137 : GoodIn lw_tbl [.code yX10_about cX10_about 5 (some .int)] := goodIn_r _ [1224] (by decide +kernel) (by decide +kernel)
set_option maxRecDepth 40000 in
theorem hgl_138 : GoodIn lw_tbl [.fieldLink RX10 98 "ElectionHouseModel" "citizens" "I", .fieldLink RX10 7 "ElectionHouseModel" "house" "[I", .fieldLink RX10 20 "ElectionHouseModel" "isKin" "[Z", .fieldLink RX10 13 "ElectionHouseModel" "party" "[I", .fieldLink RX10 16 "ElectionHouseModel" "isThere" "[Z", .methodLink RX10 111 yX10_isCitizen, .instanceMethod yX10_isCitizen, .selects RX10 yX10_isCitizen yX10_isCitizen, .initialized RX10, .code yX10_isCitizen cX10_isCitizen 2 (some .boolean), .methodLink RX10 101 yX10_in, .static yX10_in, .code yX10_in cX10_in 3 (some .boolean)] := goodIn_r _ [911, 912, 915, 913, 914, 1077, 1079, 40, 69, 1080, 1066, 1067, 1068] (by decide +kernel) (by decide +kernel)
set_option maxRecDepth 40000 in
theorem hg_wsX10_about : GoodIn lw_tbl wsX10_about := goodIn_app (a := [.code yX10_about cX10_about 5 (some .int)]) hgl_137 (goodIn_app (hgl_138) (hg_wsX100))
set_option maxRecDepth 40000 in
theorem hgl_139 : GoodIn lw_tbl [.methodLink RL 90 yX10_about, .instanceMethod yX10_about, .selects RX10 yX10_about yX10_about, .initialized RX10] := goodIn_r _ [1221, 1222, 1223, 69] (by decide +kernel) (by decide +kernel)
set_option maxRecDepth 40000 in
theorem hL_X10_about : GoodIn lw_tbl (wsV RL 90 RX10 yX10_about wsX10_about) := goodIn_app (a := [.methodLink RL 90 yX10_about, .instanceMethod yX10_about, .selects RX10 yX10_about yX10_about, .initialized RX10]) hgl_139 hg_wsX10_about
set_option maxRecDepth 40000 in
theorem hgl_140 : GoodIn lw_tbl [.code yX9_count cX9_count 2 (some .int)] := goodIn_r _ [885] (by decide +kernel) (by decide +kernel)
set_option maxRecDepth 40000 in
theorem hgl_141 : GoodIn lw_tbl [Cond.fieldLink RX9 12 "ElectionHouse" "city" "LElectionHouse$City;", Cond.fieldLink RX9 51 "ElectionHouse" "session" "LElectionHouse$Session;", Cond.fieldLink RX9 35 "ElectionHouse" "lots" "LElectionHouse$LotRow;", Cond.fieldLink RX9 19 "ElectionHouse" "tape" "LElectionHouse$Tape;", Cond.methodLink RX9 160 yX0_size, Cond.instanceMethod yX0_size, Cond.selects RX0 yX0_size yX0_size, Cond.initialized RX0, Cond.code yX0_size cX0_size 1 (some .int), Cond.fieldLink RX0 29 "ElectionHouse$City" "size" "I", Cond.methodLink RX9 163 yX0_sizeThere, Cond.instanceMethod yX0_sizeThere, Cond.selects RX0 yX0_sizeThere yX0_sizeThere, Cond.code yX0_sizeThere cX0_sizeThere 3 (some .int), Cond.methodLink RX0 50 yX0_isThere, Cond.instanceMethod yX0_isThere, Cond.selects RX0 yX0_isThere yX0_isThere, Cond.code yX0_isThere cX0_isThere 2 (some .boolean), Cond.fieldLink RX0 18 "ElectionHouse$City" "present" "[Z", Cond.methodLink RX0 43 yX0_has, Cond.instanceMethod yX0_has, Cond.selects RX0 yX0_has yX0_has, Cond.code yX0_has cX0_has 2 (some .boolean), Cond.methodLink RX9 166 yX0_pairsTold] := goodIn_r _ [326, 331, 329, 327, 886, 608, 609, 60, 610, 96, 887, 888, 889, 890, 891, 612, 613, 614, 93, 377, 378, 379, 380, 892] (by decide +kernel) (by decide +kernel)
set_option maxRecDepth 40000 in
theorem hg_wsX9_count_r1 : GoodIn lw_tbl wsX9_count_r1 := hgl_141
set_option maxRecDepth 40000 in
theorem hgl_142 : GoodIn lw_tbl [Cond.instanceMethod yX0_pairsTold, Cond.selects RX0 yX0_pairsTold yX0_pairsTold, Cond.code yX0_pairsTold cX0_pairsTold 1 (some .int), Cond.fieldLink RX0 33 "ElectionHouse$City" "pairs" "I", Cond.methodLink RX9 117 yX6_stepsInAll, Cond.instanceMethod yX6_stepsInAll, Cond.selects RX6 yX6_stepsInAll yX6_stepsInAll, Cond.initialized RX6, Cond.code yX6_stepsInAll cX6_stepsInAll 1 (some .int), Cond.fieldLink RX6 29 "ElectionHouse$Session" "plan" "LElectionHouse$Plan;", Cond.methodLink RX6 52 yX3_length, Cond.instanceMethod yX3_length, Cond.selects RX3 yX3_length yX3_length, Cond.initialized RX3, Cond.code yX3_length cX3_length 1 (some .int), Cond.fieldLink RX3 24 "ElectionHouse$Plan" "length" "I", Cond.methodLink RX9 71 yX6_stepsDone, Cond.instanceMethod yX6_stepsDone, Cond.selects RX6 yX6_stepsDone yX6_stepsDone, Cond.code yX6_stepsDone cX6_stepsDone 1 (some .int), Cond.fieldLink RX6 49 "ElectionHouse$Session" "done" "I", Cond.methodLink RX9 169 yX6_bodySize, Cond.instanceMethod yX6_bodySize, Cond.selects RX6 yX6_bodySize yX6_bodySize] := goodIn_r _ [893, 894, 895, 97, 558, 559, 560, 65, 561, 226, 562, 563, 564, 66, 565, 207, 355, 356, 357, 358, 227, 896, 600, 601] (by decide +kernel) (by decide +kernel)
set_option maxRecDepth 40000 in
theorem hg_wsX9_count_r2 : GoodIn lw_tbl wsX9_count_r2 := hgl_142
set_option maxRecDepth 40000 in
theorem hgl_143 : GoodIn lw_tbl [Cond.code yX6_bodySize cX6_bodySize 1 (some .int), Cond.fieldLink RX6 16 "ElectionHouse$Session" "sizes" "[I", Cond.methodLink RX6 56 yX6_gatherFirstBody, Cond.instanceMethod yX6_gatherFirstBody, Cond.selects RX6 yX6_gatherFirstBody yX6_gatherFirstBody, Cond.code yX6_gatherFirstBody cX6_gatherFirstBody 3 none, Cond.fieldLink RX6 37 "ElectionHouse$Session" "city" "LElectionHouse$City;", Cond.fieldLink RX6 11 "ElectionHouse$Session" "bodies" "[[I", Cond.methodLink RX6 62 yX0_size, Cond.methodLink RX6 67 yX0_isThere, Cond.methodLink RX9 172 yX1_waiting, Cond.instanceMethod yX1_waiting, Cond.selects RX1 yX1_waiting yX1_waiting, Cond.initialized RX1, Cond.code yX1_waiting cX1_waiting 1 (some .int), Cond.fieldLink RX1 15 "ElectionHouse$LotRow" "waiting" "I", Cond.methodLink RX9 175 yX1_usedInAll, Cond.instanceMethod yX1_usedInAll, Cond.selects RX1 yX1_usedInAll yX1_usedInAll, Cond.code yX1_usedInAll cX1_usedInAll 1 (some .int), Cond.fieldLink RX1 19 "ElectionHouse$LotRow" "used" "I", Cond.methodLink RX9 103 yX8_length, Cond.instanceMethod yX8_length, Cond.selects RX8 yX8_length yX8_length] := goodIn_r _ [602, 223, 603, 605, 13, 606, 219, 222, 607, 611, 897, 898, 899, 63, 900, 156, 901, 902, 903, 904, 157, 422, 423, 424] (by decide +kernel) (by decide +kernel)
set_option maxRecDepth 40000 in
theorem hg_wsX9_count_r3 : GoodIn lw_tbl wsX9_count_r3 := hgl_143
set_option maxRecDepth 40000 in
theorem hgl_144 : GoodIn lw_tbl [Cond.initialized RX8, Cond.code yX8_length cX8_length 1 (some .int), Cond.fieldLink RX8 15 "ElectionHouse$Tape" "length" "I"] := goodIn_r _ [61, 425, 123] (by decide +kernel) (by decide +kernel)
set_option maxRecDepth 40000 in
theorem hg_wsX9_count_r4 : GoodIn lw_tbl wsX9_count_r4 := hgl_144
set_option maxRecDepth 40000 in
theorem hg_wsX9_count : GoodIn lw_tbl wsX9_count := goodIn_app (a := [.code yX9_count cX9_count 2 (some .int)]) hgl_140 (goodIn_app (goodIn_app (goodIn_app (goodIn_app (goodIn_app (goodIn_app (goodIn_app (hg_wsX9_count_r1) (goodIn_app (hg_wsX9_count_r2) (goodIn_app (hg_wsX9_count_r3) (hg_wsX9_count_r4)))) (hg_wsX90)) (hg_wsX00)) (hg_wsX60)) (hg_wsX30)) (hg_wsX10)) (hg_wsX80))
set_option maxRecDepth 40000 in
theorem hgl_145 : GoodIn lw_tbl [.methodLink RL 91 yX9_count, .instanceMethod yX9_count, .selects RX9 yX9_count yX9_count, .initialized RX9] := goodIn_r _ [882, 883, 884, 59] (by decide +kernel) (by decide +kernel)
set_option maxRecDepth 40000 in
theorem hL_X9_count : GoodIn lw_tbl (wsV RL 91 RX9 yX9_count wsX9_count) := goodIn_app (a := [.methodLink RL 91 yX9_count, .instanceMethod yX9_count, .selects RX9 yX9_count yX9_count, .initialized RX9]) hgl_145 hg_wsX9_count
set_option maxRecDepth 40000 in
theorem hgl_146 : GoodIn lw_tbl [.code yX10_count cX10_count 4 (some .int)] := goodIn_r _ [1228] (by decide +kernel) (by decide +kernel)
set_option maxRecDepth 40000 in
theorem hgl_147 : GoodIn lw_tbl [.fieldLink RX10 98 "ElectionHouseModel" "citizens" "I", .fieldLink RX10 16 "ElectionHouseModel" "isThere" "[Z", .fieldLink RX10 115 "ElectionHouseModel" "pairs" "I", .fieldLink RX10 171 "ElectionHouseModel" "steps" "I", .fieldLink RX10 105 "ElectionHouseModel" "done" "I", .fieldLink RX10 174 "ElectionHouseModel" "waiting" "I", .fieldLink RX10 177 "ElectionHouseModel" "used" "I", .fieldLink RX10 118 "ElectionHouseModel" "taped" "I", .methodLink RX10 199 yX10_bodyNow, .instanceMethod yX10_bodyNow, .selects RX10 yX10_bodyNow yX10_bodyNow, .initialized RX10, .code yX10_bodyNow cX10_bodyNow 1 (some .int), .fieldLink RX10 54 "ElectionHouseModel" "bodyMany" "[I", .methodLink RX10 202 yX10_row, .instanceMethod yX10_row, .selects RX10 yX10_row yX10_row, .code yX10_row cX10_row 1 (some .int), .fieldLink RX10 30 "ElectionHouseModel" "kind" "[I"] := goodIn_r _ [911, 914, 916, 920, 929, 934, 935, 919, 1165, 1167, 52, 69, 1168, 930, 1169, 1171, 53, 1172, 921] (by decide +kernel) (by decide +kernel)
set_option maxRecDepth 40000 in
theorem hg_wsX10_count : GoodIn lw_tbl wsX10_count := goodIn_app (a := [.code yX10_count cX10_count 4 (some .int)]) hgl_146 (goodIn_app (hgl_147) (hg_wsX100))
set_option maxRecDepth 40000 in
theorem hgl_148 : GoodIn lw_tbl [.methodLink RL 94 yX10_count, .instanceMethod yX10_count, .selects RX10 yX10_count yX10_count, .initialized RX10] := goodIn_r _ [1225, 1226, 1227, 69] (by decide +kernel) (by decide +kernel)
set_option maxRecDepth 40000 in
theorem hL_X10_count : GoodIn lw_tbl (wsV RL 94 RX10 yX10_count wsX10_count) := goodIn_app (a := [.methodLink RL 94 yX10_count, .instanceMethod yX10_count, .selects RX10 yX10_count yX10_count, .initialized RX10]) hgl_148 hg_wsX10_count
