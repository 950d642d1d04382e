set_option maxRecDepth 40000 in
theorem hL_X9_there : GoodIn lw_tbl (wsV RL 18 RX9 yX9_there wsX9_there) := goodIn_app (a := [.methodLink RL 18 yX9_there, .instanceMethod yX9_there, .selects RX9 yX9_there yX9_there, .initialized RX9]) hgl_18 hg_wsX9_there
set_option maxRecDepth 40000 in
theorem hgl_19 : GoodIn lw_tbl [.code yX10_there cX10_there 3 (some .boolean)] := goodIn_r _ [1076] (by decide +kernel) (by decide +kernel)
set_option maxRecDepth 40000 in
theorem hgl_20 : GoodIn lw_tbl [.fieldLink RX10 16 "ElectionHouseModel" "isThere" "[Z", .methodLink RX10 111 yX10_isCitizen, .instanceMethod yX10_isCitizen, .selects RX10 yX10_isCitizen yX10_isCitizen, .initialized RX10, .code yX10_isCitizen cX10_isCitizen 2 (some .boolean), .fieldLink RX10 98 "ElectionHouseModel" "citizens" "I", .methodLink RX10 101 yX10_in, .static yX10_in, .code yX10_in cX10_in 3 (some .boolean), .methodLink RX10 108 yX10_begins, .instanceMethod yX10_begins, .selects RX10 yX10_begins yX10_begins, .code yX10_begins cX10_begins 2 none, .fieldLink RX10 105 "ElectionHouseModel" "done" "I", .fieldLink RX10 54 "ElectionHouseModel" "bodyMany" "[I", .fieldLink RX10 57 "ElectionHouseModel" "bodies" "[I"] := goodIn_r _ [914, 1077, 1079, 40, 69, 1080, 911, 1066, 1067, 1068, 1069, 1071, 39, 1072, 929, 930, 931] (by decide +kernel) (by decide +kernel)
set_option maxRecDepth 40000 in
theorem hg_wsX10_there : GoodIn lw_tbl wsX10_there := goodIn_app (a := [.code yX10_there cX10_there 3 (some .boolean)]) hgl_19 (goodIn_app (hgl_20) (hg_wsX100))
set_option maxRecDepth 40000 in
theorem hgl_21 : GoodIn lw_tbl [.methodLink RL 22 yX10_there, .instanceMethod yX10_there, .selects RX10 yX10_there yX10_there, .initialized RX10] := goodIn_r _ [1073, 1074, 1075, 69] (by decide +kernel) (by decide +kernel)
set_option maxRecDepth 40000 in
theorem hL_X10_there : GoodIn lw_tbl (wsV RL 22 RX10 yX10_there wsX10_there) := goodIn_app (a := [.methodLink RL 22 yX10_there, .instanceMethod yX10_there, .selects RX10 yX10_there yX10_there, .initialized RX10]) hgl_21 hg_wsX10_there
set_option maxRecDepth 40000 in
theorem hgl_22 : GoodIn lw_tbl [.code yX9_kin cX9_kin 3 (some .boolean)] := goodIn_r _ [384] (by decide +kernel) (by decide +kernel)
set_option maxRecDepth 40000 in
theorem hgl_23 : GoodIn lw_tbl [.fieldLink RX9 12 "ElectionHouse" "city" "LElectionHouse$City;", .methodLink RX9 83 yX0_tellKin, .instanceMethod yX0_tellKin, .selects RX0 yX0_tellKin yX0_tellKin, .initialized RX0, .code yX0_tellKin cX0_tellKin 3 (some .boolean), .fieldLink RX0 33 "ElectionHouse$City" "pairs" "I", .fieldLink RX0 25 "ElectionHouse$City" "told" "[J", .methodLink RX0 43 yX0_has, .instanceMethod yX0_has, .selects RX0 yX0_has yX0_has, .code yX0_has cX0_has 2 (some .boolean), .fieldLink RX0 29 "ElectionHouse$City" "size" "I", .methodLink RX0 46 yX0_wasTold, .instanceMethod yX0_wasTold, .selects RX0 yX0_wasTold yX0_wasTold, .code yX0_wasTold cX0_wasTold 3 (some .boolean)] := goodIn_r _ [326, 385, 386, 387, 60, 388, 97, 95, 377, 378, 379, 380, 96, 389, 391, 0, 392] (by decide +kernel) (by decide +kernel)
set_option maxRecDepth 40000 in
theorem hg_wsX9_kin : GoodIn lw_tbl wsX9_kin := goodIn_app (a := [.code yX9_kin cX9_kin 3 (some .boolean)]) hgl_22 (goodIn_app (goodIn_app (hgl_23) (hg_wsX90)) (hg_wsX00))
set_option maxRecDepth 40000 in
theorem hgl_24 : GoodIn lw_tbl [.methodLink RL 23 yX9_kin, .instanceMethod yX9_kin, .selects RX9 yX9_kin yX9_kin, .initialized RX9] := goodIn_r _ [381, 382, 383, 59] (by decide +kernel) (by decide +kernel)
set_option maxRecDepth 40000 in
theorem hL_X9_kin : GoodIn lw_tbl (wsV RL 23 RX9 yX9_kin wsX9_kin) := goodIn_app (a := [.methodLink RL 23 yX9_kin, .instanceMethod yX9_kin, .selects RX9 yX9_kin yX9_kin, .initialized RX9]) hgl_24 hg_wsX9_kin
set_option maxRecDepth 40000 in
theorem hgl_25 : GoodIn lw_tbl [.code yX10_kin cX10_kin 3 (some .boolean)] := goodIn_r _ [1084] (by decide +kernel) (by decide +kernel)
set_option maxRecDepth 40000 in
theorem hgl_26 : GoodIn lw_tbl [.fieldLink RX10 20 "ElectionHouseModel" "isKin" "[Z", .fieldLink RX10 115 "ElectionHouseModel" "pairs" "I", .methodLink RX10 111 yX10_isCitizen, .instanceMethod yX10_isCitizen, .selects RX10 yX10_isCitizen yX10_isCitizen, .initialized RX10, .code yX10_isCitizen cX10_isCitizen 2 (some .boolean), .fieldLink RX10 98 "ElectionHouseModel" "citizens" "I", .methodLink RX10 101 yX10_in, .static yX10_in, .code yX10_in cX10_in 3 (some .boolean)] := goodIn_r _ [915, 916, 1077, 1079, 40, 69, 1080, 911, 1066, 1067, 1068] (by decide +kernel) (by decide +kernel)
set_option maxRecDepth 40000 in
theorem hg_wsX10_kin : GoodIn lw_tbl wsX10_kin := goodIn_app (a := [.code yX10_kin cX10_kin 3 (some .boolean)]) hgl_25 (goodIn_app (hgl_26) (hg_wsX100))
set_option maxRecDepth 40000 in
theorem hgl_27 : GoodIn lw_tbl [.methodLink RL 27 yX10_kin, .instanceMethod yX10_kin, .selects RX10 yX10_kin yX10_kin, .initialized RX10] := goodIn_r _ [1081, 1082, 1083, 69] (by decide +kernel) (by decide +kernel)
set_option maxRecDepth 40000 in
theorem hL_X10_kin : GoodIn lw_tbl (wsV RL 27 RX10 yX10_kin wsX10_kin) := goodIn_app (a := [.methodLink RL 27 yX10_kin, .instanceMethod yX10_kin, .selects RX10 yX10_kin yX10_kin, .initialized RX10]) hgl_27 hg_wsX10_kin
set_option maxRecDepth 40000 in
theorem hgl_28 : GoodIn lw_tbl [.code yX9_says cX9_says 4 (some .boolean)] := goodIn_r _ [396] (by decide +kernel) (by decide +kernel)
set_option maxRecDepth 40000 in
theorem hgl_29 : GoodIn lw_tbl [.fieldLink RX9 12 "ElectionHouse" "city" "LElectionHouse$City;", .methodLink RX9 87 yX0_setYes, .instanceMethod yX0_setYes, .selects RX0 yX0_setYes yX0_setYes, .initialized RX0, .code yX0_setYes cX0_setYes 5 (some .boolean), .fieldLink RX0 22 "ElectionHouse$City" "yes" "[Z", .methodLink RX0 40 yX0_isParty, .static yX0_isParty, .code yX0_isParty cX0_isParty 1 (some .boolean)] := goodIn_r _ [326, 397, 398, 399, 60, 400, 94, 366, 367, 368] (by decide +kernel) (by decide +kernel)
set_option maxRecDepth 40000 in
theorem hg_wsX9_says : GoodIn lw_tbl wsX9_says := goodIn_app (a := [.code yX9_says cX9_says 4 (some .boolean)]) hgl_28 (goodIn_app (goodIn_app (hgl_29) (hg_wsX90)) (hg_wsX00))
set_option maxRecDepth 40000 in
theorem hgl_30 : GoodIn lw_tbl [.methodLink RL 28 yX9_says, .instanceMethod yX9_says, .selects RX9 yX9_says yX9_says, .initialized RX9] := goodIn_r _ [393, 394, 395, 59] (by decide +kernel) (by decide +kernel)
set_option maxRecDepth 40000 in
theorem hL_X9_says : GoodIn lw_tbl (wsV RL 28 RX9 yX9_says wsX9_says) := goodIn_app (a := [.methodLink RL 28 yX9_says, .instanceMethod yX9_says, .selects RX9 yX9_says yX9_says, .initialized RX9]) hgl_30 hg_wsX9_says
set_option maxRecDepth 40000 in
theorem hgl_31 : GoodIn lw_tbl [.code yX10_says cX10_says 4 (some .boolean)] := goodIn_r _ [1088] (by decide +kernel) (by decide +kernel)
set_option maxRecDepth 40000 in
theorem hgl_32 : GoodIn lw_tbl [.fieldLink RX10 23 "ElectionHouseModel" "yes" "[Z", .methodLink RX10 101 yX10_in, .static yX10_in, .initialized RX10, .code yX10_in cX10_in 3 (some .boolean)] := goodIn_r _ [917, 1066, 1067, 69, 1068] (by decide +kernel) (by decide +kernel)
set_option maxRecDepth 40000 in
theorem hg_wsX10_says : GoodIn lw_tbl wsX10_says := goodIn_app (a := [.code yX10_says cX10_says 4 (some .boolean)]) hgl_31 (goodIn_app (hgl_32) (hg_wsX100))
set_option maxRecDepth 40000 in
theorem hgl_33 : GoodIn lw_tbl [.methodLink RL 32 yX10_says, .instanceMethod yX10_says, .selects RX10 yX10_says yX10_says, .initialized RX10] := goodIn_r _ [1085, 1086, 1087, 69] (by decide +kernel) (by decide +kernel)
set_option maxRecDepth 40000 in
theorem hL_X10_says : GoodIn lw_tbl (wsV RL 32 RX10 yX10_says wsX10_says) := goodIn_app (a := [.methodLink RL 32 yX10_says, .instanceMethod yX10_says, .selects RX10 yX10_says yX10_says, .initialized RX10]) hgl_33 hg_wsX10_says
set_option maxRecDepth 40000 in
theorem hgl_34 : GoodIn lw_tbl [.code yX9_turn cX9_turn 4 (some .boolean)] := goodIn_r _ [404] (by decide +kernel) (by decide +kernel)
set_option maxRecDepth 40000 in
theorem hgl_35 : GoodIn lw_tbl [.fieldLink RX9 12 "ElectionHouse" "city" "LElectionHouse$City;", .methodLink RX9 91 yX0_convert, .instanceMethod yX0_convert, .selects RX0 yX0_convert yX0_convert, .initialized RX0, .code yX0_convert cX0_convert 4 (some .boolean), .fieldLink RX0 9 "ElectionHouse$City" "houses" "[I", .fieldLink RX0 15 "ElectionHouse$City" "parties" "[I", .methodLink RX0 43 yX0_has, .instanceMethod yX0_has, .selects RX0 yX0_has yX0_has, .code yX0_has cX0_has 2 (some .boolean), .fieldLink RX0 29 "ElectionHouse$City" "size" "I", .methodLink RX0 36 yX0_isHouse, .static yX0_isHouse, .code yX0_isHouse cX0_isHouse 1 (some .boolean), .methodLink RX0 40 yX0_isParty, .static yX0_isParty, .code yX0_isParty cX0_isParty 1 (some .boolean)] := goodIn_r _ [326, 405, 406, 407, 60, 408, 91, 92, 377, 378, 379, 380, 96, 363, 364, 365, 366, 367, 368] (by decide +kernel) (by decide +kernel)
set_option maxRecDepth 40000 in
theorem hg_wsX9_turn : GoodIn lw_tbl wsX9_turn := goodIn_app (a := [.code yX9_turn cX9_turn 4 (some .boolean)]) hgl_34 (goodIn_app (goodIn_app (hgl_35) (hg_wsX90)) (hg_wsX00))
set_option maxRecDepth 40000 in
theorem hgl_36 : GoodIn lw_tbl [.methodLink RL 33 yX9_turn, .instanceMethod yX9_turn, .selects RX9 yX9_turn yX9_turn, .initialized RX9] := goodIn_r _ [401, 402, 403, 59] (by decide +kernel) (by decide +kernel)
set_option maxRecDepth 40000 in
theorem hL_X9_turn : GoodIn lw_tbl (wsV RL 33 RX9 yX9_turn wsX9_turn) := goodIn_app (a := [.methodLink RL 33 yX9_turn, .instanceMethod yX9_turn, .selects RX9 yX9_turn yX9_turn, .initialized RX9]) hgl_36 hg_wsX9_turn
set_option maxRecDepth 40000 in
theorem hgl_37 : GoodIn lw_tbl [.code yX10_turn cX10_turn 4 (some .boolean)] := goodIn_r _ [1092] (by decide +kernel) (by decide +kernel)
set_option maxRecDepth 40000 in
theorem hgl_38 : GoodIn lw_tbl [.fieldLink RX10 7 "ElectionHouseModel" "house" "[I", .fieldLink RX10 13 "ElectionHouseModel" "party" "[I", .methodLink RX10 111 yX10_isCitizen, .instanceMethod yX10_isCitizen, .selects RX10 yX10_isCitizen yX10_isCitizen, .initialized RX10, .code yX10_isCitizen cX10_isCitizen 2 (some .boolean), .fieldLink RX10 98 "ElectionHouseModel" "citizens" "I", .methodLink RX10 101 yX10_in, .static yX10_in, .code yX10_in cX10_in 3 (some .boolean)] := goodIn_r _ [912, 913, 1077, 1079, 40, 69, 1080, 911, 1066, 1067, 1068] (by decide +kernel) (by decide +kernel)
set_option maxRecDepth 40000 in
theorem hg_wsX10_turn : GoodIn lw_tbl wsX10_turn := goodIn_app (a := [.code yX10_turn cX10_turn 4 (some .boolean)]) hgl_37 (goodIn_app (hgl_38) (hg_wsX100))
set_option maxRecDepth 40000 in
theorem hgl_39 : GoodIn lw_tbl [.methodLink RL 37 yX10_turn, .instanceMethod yX10_turn, .selects RX10 yX10_turn yX10_turn, .initialized RX10] := goodIn_r _ [1089, 1090, 1091, 69] (by decide +kernel) (by decide +kernel)
set_option maxRecDepth 40000 in
theorem hL_X10_turn : GoodIn lw_tbl (wsV RL 37 RX10 yX10_turn wsX10_turn) := goodIn_app (a := [.methodLink RL 37 yX10_turn, .instanceMethod yX10_turn, .selects RX10 yX10_turn yX10_turn, .initialized RX10]) hgl_39 hg_wsX10_turn
set_option maxRecDepth 40000 in
theorem hgl_40 : GoodIn lw_tbl [.code yX9_feed cX9_feed 6 (some .int)] := goodIn_r _ [412] (by decide +kernel) (by decide +kernel)
set_option maxRecDepth 40000 in
theorem hgl_41 : GoodIn lw_tbl [.fieldLink RX9 19 "ElectionHouse" "tape" "LElectionHouse$Tape;", .methodLink RX9 95 yX8_hasRoom, .instanceMethod yX8_hasRoom, .selects RX8 yX8_hasRoom yX8_hasRoom, .initialized RX8, .code yX8_hasRoom cX8_hasRoom 2 (some .boolean), .fieldLink RX8 15 "ElectionHouse$Tape" "length" "I", .methodLink RX9 99 yX8_append, .instanceMethod yX8_append, .selects RX8 yX8_append yX8_append, .code yX8_append cX8_append 3 none, .fieldLink RX8 9 "ElectionHouse$Tape" "bytes" "[I", .methodLink RX8 19 yX8_hasRoom, .methodLink RX9 103 yX8_length, .instanceMethod yX8_length, .selects RX8 yX8_length yX8_length, .code yX8_length cX8_length 1 (some .int)] := goodIn_r _ [327, 413, 414, 415, 61, 416, 123, 417, 418, 419, 420, 122, 421, 422, 423, 424, 425] (by decide +kernel) (by decide +kernel)
set_option maxRecDepth 40000 in
theorem hg_wsX9_feed : GoodIn lw_tbl wsX9_feed := goodIn_app (a := [.code yX9_feed cX9_feed 6 (some .int)]) hgl_40 (goodIn_app (goodIn_app (hgl_41) (hg_wsX90)) (hg_wsX80))
set_option maxRecDepth 40000 in
theorem hgl_42 : GoodIn lw_tbl [.methodLink RL 38 yX9_feed, .instanceMethod yX9_feed, .selects RX9 yX9_feed yX9_feed, .initialized RX9] := goodIn_r _ [409, 410, 411, 59] (by decide +kernel) (by decide +kernel)
set_option maxRecDepth 40000 in
theorem hL_X9_feed : GoodIn lw_tbl (wsV RL 38 RX9 yX9_feed wsX9_feed) := goodIn_app (a := [.methodLink RL 38 yX9_feed, .instanceMethod yX9_feed, .selects RX9 yX9_feed yX9_feed, .initialized RX9]) hgl_42 hg_wsX9_feed
set_option maxRecDepth 40000 in
theorem hgl_43 : GoodIn lw_tbl [.code yX10_feed cX10_feed 6 (some .int)] := goodIn_r _ [1096] (by decide +kernel) (by decide +kernel)
set_option maxRecDepth 40000 in
theorem hgl_44 : GoodIn lw_tbl [.fieldLink RX10 118 "ElectionHouseModel" "taped" "I", .methodLink RX10 121 yX10_four, .instanceMethod yX10_four, .selects RX10 yX10_four yX10_four, .initialized RX10, .code yX10_four cX10_four 3 none, .fieldLink RX10 26 "ElectionHouseModel" "tape" "[B"] := goodIn_r _ [919, 1097, 1099, 41, 69, 1100, 918] (by decide +kernel) (by decide +kernel)
set_option maxRecDepth 40000 in
theorem hg_wsX10_feed : GoodIn lw_tbl wsX10_feed := goodIn_app (a := [.code yX10_feed cX10_feed 6 (some .int)]) hgl_43 (goodIn_app (hgl_44) (hg_wsX100))
set_option maxRecDepth 40000 in
theorem hgl_45 : GoodIn lw_tbl [.methodLink RL 42 yX10_feed, .instanceMethod yX10_feed, .selects RX10 yX10_feed yX10_feed, .initialized RX10] := goodIn_r _ [1093, 1094, 1095, 69] (by decide +kernel) (by decide +kernel)
set_option maxRecDepth 40000 in
theorem hL_X10_feed : GoodIn lw_tbl (wsV RL 42 RX10 yX10_feed wsX10_feed) := goodIn_app (a := [.methodLink RL 42 yX10_feed, .instanceMethod yX10_feed, .selects RX10 yX10_feed yX10_feed, .initialized RX10]) hgl_45 hg_wsX10_feed
set_option maxRecDepth 40000 in
theorem hgl_46 : GoodIn lw_tbl [.code yX9_end cX9_end 2 (some .int)] := goodIn_r _ [429] (by decide +kernel) (by decide +kernel)
set_option maxRecDepth 40000 in
theorem hgl_47 : GoodIn lw_tbl [.fieldLink RX9 19 "ElectionHouse" "tape" "LElectionHouse$Tape;", .methodLink RX9 106 yX8_cut, .instanceMethod yX8_cut, .selects RX8 yX8_cut yX8_cut, .initialized RX8, .code yX8_cut cX8_cut 2 (some .boolean), .fieldLink RX8 15 "ElectionHouse$Tape" "length" "I"] := goodIn_r _ [327, 430, 431, 432, 61, 433, 123] (by decide +kernel) (by decide +kernel)
set_option maxRecDepth 40000 in
theorem hg_wsX9_end : GoodIn lw_tbl wsX9_end := goodIn_app (a := [.code yX9_end cX9_end 2 (some .int)]) hgl_46 (goodIn_app (goodIn_app (hgl_47) (hg_wsX90)) (hg_wsX80))
set_option maxRecDepth 40000 in
theorem hgl_48 : GoodIn lw_tbl [.methodLink RL 43 yX9_end, .instanceMethod yX9_end, .selects RX9 yX9_end yX9_end, .initialized RX9] := goodIn_r _ [426, 427, 428, 59] (by decide +kernel) (by decide +kernel)
set_option maxRecDepth 40000 in
theorem hL_X9_end : GoodIn lw_tbl (wsV RL 43 RX9 yX9_end wsX9_end) := goodIn_app (a := [.methodLink RL 43 yX9_end, .instanceMethod yX9_end, .selects RX9 yX9_end yX9_end, .initialized RX9]) hgl_48 hg_wsX9_end
set_option maxRecDepth 40000 in
theorem hgl_49 : GoodIn lw_tbl [.code yX10_end cX10_end 2 (some .int)] := goodIn_r _ [1104] (by decide +kernel) (by decide +kernel)
set_option maxRecDepth 40000 in
theorem hgl_50 : GoodIn lw_tbl [.fieldLink RX10 118 "ElectionHouseModel" "taped" "I"] := goodIn_r _ [919] (by decide +kernel) (by decide +kernel)
set_option maxRecDepth 40000 in
theorem hg_wsX10_end : GoodIn lw_tbl wsX10_end := goodIn_app (a := [.code yX10_end cX10_end 2 (some .int)]) hgl_49 (goodIn_app (hgl_50) (hg_wsX100))
set_option maxRecDepth 40000 in
theorem hgl_51 : GoodIn lw_tbl [.methodLink RL 47 yX10_end, .instanceMethod yX10_end, .selects RX10 yX10_end yX10_end, .initialized RX10] := goodIn_r _ [1101, 1102, 1103, 69] (by decide +kernel) (by decide +kernel)
set_option maxRecDepth 40000 in
theorem hL_X10_end : GoodIn lw_tbl (wsV RL 47 RX10 yX10_end wsX10_end) := goodIn_app (a := [.methodLink RL 47 yX10_end, .instanceMethod yX10_end, .selects RX10 yX10_end yX10_end, .initialized RX10]) hgl_51 hg_wsX10_end
set_option maxRecDepth 40000 in
theorem hgl_52 : GoodIn lw_tbl [.code yX9_procedure cX9_procedure 2 (some .int)] := goodIn_r _ [437] (by decide +kernel) (by decide +kernel)
set_option maxRecDepth 40000 in
theorem hgl_53 : GoodIn lw_tbl [Cond.fieldLink RX9 28 "ElectionHouse" "reader" "LElectionHouse$Reader;", Cond.fieldLink RX9 67 "ElectionHouse" "draft" "LElectionHouse$Plan;", Cond.fieldLink RX9 19 "ElectionHouse" "tape" "LElectionHouse$Tape;", Cond.fieldLink RX9 51 "ElectionHouse" "session" "LElectionHouse$Session;", Cond.methodLink RX9 109 yX5_read, Cond.instanceMethod yX5_read, Cond.selects RX5 yX5_read yX5_read, Cond.initialized RX5, Cond.code yX5_read cX5_read 4 (some .int), Cond.fieldLink RX5 15 "ElectionHouse$Reader" "place" "I", Cond.fieldLink RX5 19 "ElectionHouse$Reader" "bodyByText" "I", Cond.fieldLink RX5 22 "ElectionHouse$Reader" "fault" "I", Cond.methodLink RX5 25 yX3_clear, Cond.instanceMethod yX3_clear, Cond.selects RX3 yX3_clear yX3_clear, Cond.initialized RX3, Cond.code yX3_clear cX3_clear 1 none, Cond.fieldLink RX3 24 "ElectionHouse$Plan" "length" "I", Cond.methodLink RX5 30 yX5_readStep, Cond.instanceMethod yX5_readStep, Cond.selects RX5 yX5_readStep yX5_readStep, Cond.code yX5_readStep cX5_readStep 10 (some .boolean), Cond.methodLink RX5 34 yX5_skipBlanks, Cond.instanceMethod yX5_skipBlanks] := goodIn_r _ [328, 333, 327, 331, 438, 439, 440, 62, 441, 136, 137, 138, 442, 443, 444, 66, 445, 207, 446, 448, 1, 449, 450, 452] (by decide +kernel) (by decide +kernel)
set_option maxRecDepth 40000 in
theorem hg_wsX9_procedure_r1 : GoodIn lw_tbl wsX9_procedure_r1 := hgl_53
set_option maxRecDepth 40000 in
theorem hgl_54 : GoodIn lw_tbl [Cond.selects RX5 yX5_skipBlanks yX5_skipBlanks, Cond.code yX5_skipBlanks cX5_skipBlanks 1 none, Cond.fieldLink RX5 9 "ElectionHouse$Reader" "tape" "LElectionHouse$Tape;", Cond.methodLink RX5 76 yX8_length, Cond.instanceMethod yX8_length, Cond.selects RX8 yX8_length yX8_length, Cond.initialized RX8, Cond.code yX8_length cX8_length 1 (some .int), Cond.fieldLink RX8 15 "ElectionHouse$Tape" "length" "I", Cond.methodLink RX5 66 yX8_at, Cond.instanceMethod yX8_at, Cond.selects RX8 yX8_at yX8_at, Cond.code yX8_at cX8_at 2 (some .int), Cond.fieldLink RX8 9 "ElectionHouse$Tape" "bytes" "[I", Cond.methodLink RX5 37 yX5_takeWord, Cond.instanceMethod yX5_takeWord, Cond.selects RX5 yX5_takeWord yX5_takeWord, Cond.code yX5_takeWord cX5_takeWord 2 (some .int), Cond.methodLink RX5 72 yX5_isLetter, Cond.static yX5_isLetter, Cond.code yX5_isLetter cX5_isLetter 1 (some .boolean), Cond.methodLink RX5 84 yX5_spells, Cond.instanceMethod yX5_spells, Cond.selects RX5 yX5_spells yX5_spells] := goodIn_r _ [2, 453, 135, 454, 423, 424, 61, 425, 123, 455, 456, 457, 458, 122, 459, 461, 3, 462, 463, 464, 465, 467, 469, 4] (by decide +kernel) (by decide +kernel)
set_option maxRecDepth 40000 in
theorem hg_wsX9_procedure_r2 : GoodIn lw_tbl wsX9_procedure_r2 := hgl_54
set_option maxRecDepth 40000 in
theorem hgl_55 : GoodIn lw_tbl [Cond.code yX5_spells cX5_spells 4 (some .boolean), Cond.methodLink RX5 96 yJ0_length_8abf5, Cond.instanceMethod yJ0_length_8abf5, Cond.selects RJ0 yJ0_length_8abf5 yJ0_length_8abf5, Cond.initialized RJ0, Cond.code yJ0_length_8abf5 cJ0_length_8abf5 1 (some .int), Cond.fieldLink RJ0 9 "java/lang/String" "value" "[B", Cond.methodLink RJ0 335 yJ0_coder_7d493, Cond.instanceMethod yJ0_coder_7d493, Cond.selects RJ0 yJ0_coder_7d493 yJ0_coder_7d493, Cond.code yJ0_coder_7d493 cJ0_coder_7d493 1 (some .byte), Cond.fieldLink RJ0 38 "java/lang/String" "COMPACT_STRINGS" "Z", Cond.fieldLink RJ0 15 "java/lang/String" "coder" "B", Cond.methodLink RX5 99 yJ0_charAt_5068e, Cond.instanceMethod yJ0_charAt_5068e, Cond.selects RJ0 yJ0_charAt_5068e yJ0_charAt_5068e, Cond.code yJ0_charAt_5068e cJ0_charAt_5068e 2 (some .char), Cond.methodLink RJ0 492 yJ0_isLatin1_aae02, Cond.instanceMethod yJ0_isLatin1_aae02, Cond.selects RJ0 yJ0_isLatin1_aae02 yJ0_isLatin1_aae02, Cond.code yJ0_isLatin1_aae02 cJ0_isLatin1_aae02 1 (some .boolean), Cond.methodLink RJ0 495 yJ1_charAt_3b067, Cond.static yJ1_charAt_3b067, Cond.initialized RJ1] := goodIn_r _ [470, 471, 472, 473, 70, 474, 1229, 475, 476, 477, 478, 479, 1230, 481, 482, 483, 484, 485, 486, 487, 488, 489, 490, 71] (by decide +kernel) (by decide +kernel)
set_option maxRecDepth 40000 in
theorem hg_wsX9_procedure_r3 : GoodIn lw_tbl wsX9_procedure_r3 := hgl_55
set_option maxRecDepth 40000 in
theorem hgl_56 : GoodIn lw_tbl [Cond.code yJ1_charAt_3b067 cJ1_charAt_3b067 2 (some .char), Cond.methodLink RJ1 9 yJ0_checkIndex_df160, Cond.static yJ0_checkIndex_df160, Cond.code yJ0_checkIndex_df160 cJ0_checkIndex_df160 2 none, Cond.fieldLink RJ0 1053 "jdk/internal/util/Preconditions" "SIOOBE_FORMATTER" "Ljava/util/function/BiFunction;", Cond.methodLink RJ0 1059 yJ3_checkIndex_8e157, Cond.static yJ3_checkIndex_8e157, Cond.initialized RJ3, Cond.code yJ3_checkIndex_8e157 cJ3_checkIndex_8e157 3 (some .int), Cond.methodLink RJ0 498 yJ2_charAt_3b067, Cond.static yJ2_charAt_3b067, Cond.initialized RJ2, Cond.code yJ2_charAt_3b067 cJ2_charAt_3b067 2 (some .char), Cond.methodLink RJ2 67 yJ2_checkIndex_2214a, Cond.static yJ2_checkIndex_2214a, Cond.code yJ2_checkIndex_2214a cJ2_checkIndex_2214a 2 none, Cond.methodLink RJ2 48 yJ2_length_9d52b, Cond.static yJ2_length_9d52b, Cond.code yJ2_length_9d52b cJ2_length_9d52b 1 (some .int), Cond.methodLink RJ2 414 yJ0_checkIndex_df160, Cond.methodLink RJ2 71 yJ2_getChar_3b067, Cond.static yJ2_getChar_3b067, Cond.code yJ2_getChar_3b067 cJ2_getChar_3b067 2 (some .char), Cond.fieldLink RJ2 44 "java/lang/StringUTF16" "$assertionsDisabled" "Z"] := goodIn_r _ [491, 492, 493, 494, 495, 497, 498, 72, 499, 500, 501, 73, 502, 503, 504, 505, 506, 507, 508, 509, 510, 511, 512, 513] (by decide +kernel) (by decide +kernel)
