set_option maxRecDepth 40000 in
theorem hgl_1 : GoodIn lw_tbl [.code yX9_init cX9_init 1 none] := goodIn_r _ [81] (by decide +kernel) (by decide +kernel)
set_option maxRecDepth 40000 in
theorem hgl_2 : GoodIn lw_tbl [Cond.methodLink RX9 3 objectInit, Cond.instanceMethod objectInit, Cond.code objectInit ⟨#[0xb1]⟩ 1 none, Cond.classLink RX9 9 RX0, Cond.instantiable RX0 7, Cond.initialized RX0, Cond.fieldLink RX9 12 "ElectionHouse" "city" "LElectionHouse$City;", Cond.classLink RX9 16 RX8, Cond.instantiable RX8 2, Cond.initialized RX8, Cond.fieldLink RX9 19 "ElectionHouse" "tape" "LElectionHouse$Tape;", Cond.classLink RX9 23 RX5, Cond.instantiable RX5 4, Cond.initialized RX5, Cond.fieldLink RX9 28 "ElectionHouse" "reader" "LElectionHouse$Reader;", Cond.classLink RX9 32 RX1, Cond.instantiable RX1 4, Cond.initialized RX1, Cond.fieldLink RX9 35 "ElectionHouse" "lots" "LElectionHouse$LotRow;", Cond.classLink RX9 39 RX4, Cond.instantiable RX4 5, Cond.initialized RX4, Cond.fieldLink RX9 42 "ElectionHouse" "poll" "LElectionHouse$Poll;", Cond.classLink RX9 46 RX6] := goodIn_r _ [82, 83, 84, 85, 86, 60, 326, 116, 117, 61, 327, 129, 130, 62, 328, 148, 149, 63, 329, 167, 168, 64, 330, 189] (by decide +kernel) (by decide +kernel)
set_option maxRecDepth 40000 in
theorem hg_wsX9_init_r1 : GoodIn lw_tbl wsX9_init_r1 := hgl_2
set_option maxRecDepth 40000 in
theorem hgl_3 : GoodIn lw_tbl [Cond.instantiable RX6 10, Cond.initialized RX6, Cond.fieldLink RX9 51 "ElectionHouse" "session" "LElectionHouse$Session;", Cond.classLink RX9 55 RX2, Cond.instantiable RX2 16, Cond.initialized RX2, Cond.fieldLink RX9 60 "ElectionHouse" "odds" "LElectionHouse$Odds;", Cond.classLink RX9 64 RX3, Cond.instantiable RX3 5, Cond.initialized RX3, Cond.fieldLink RX9 67 "ElectionHouse" "draft" "LElectionHouse$Plan;", Cond.methodLink RX9 11 yX0_init, Cond.instanceMethod yX0_init, Cond.code yX0_init cX0_init 2 none, Cond.methodLink RX0 3 objectInit, Cond.arrayClass .int, Cond.fieldLink RX0 9 "ElectionHouse$City" "houses" "[I", Cond.fieldLink RX0 15 "ElectionHouse$City" "parties" "[I", Cond.arrayClass .boolean, Cond.fieldLink RX0 18 "ElectionHouse$City" "present" "[Z", Cond.fieldLink RX0 22 "ElectionHouse$City" "yes" "[Z", Cond.arrayClass .long, Cond.fieldLink RX0 25 "ElectionHouse$City" "told" "[J", Cond.instanceMethod yX8_init] := goodIn_r _ [190, 65, 331, 250, 251, 67, 332, 324, 198, 66, 333, 87, 88, 89, 90, 113, 91, 92, 114, 93, 94, 115, 95, 119] (by decide +kernel) (by decide +kernel)
set_option maxRecDepth 40000 in
theorem hg_wsX9_init_r2 : GoodIn lw_tbl wsX9_init_r2 := hgl_3
set_option maxRecDepth 40000 in
theorem hgl_4 : GoodIn lw_tbl [Cond.code yX8_init cX8_init 1 none, Cond.methodLink RX8 3 objectInit, Cond.fieldLink RX8 9 "ElectionHouse$Tape" "bytes" "[I", Cond.methodLink RX9 25 yX5_init, Cond.instanceMethod yX5_init, Cond.code yX5_init cX5_init 2 none, Cond.methodLink RX5 3 objectInit, Cond.fieldLink RX5 9 "ElectionHouse$Reader" "tape" "LElectionHouse$Tape;", Cond.instanceMethod yX1_init, Cond.code yX1_init cX1_init 1 none, Cond.methodLink RX1 3 objectInit, Cond.fieldLink RX1 9 "ElectionHouse$LotRow" "ring" "[I", Cond.instanceMethod yX4_init, Cond.code yX4_init cX4_init 1 none, Cond.methodLink RX4 3 objectInit, Cond.fieldLink RX4 9 "ElectionHouse$Poll" "votes" "[I", Cond.methodLink RX9 48 yX6_init, Cond.instanceMethod yX6_init, Cond.code yX6_init cX6_init 4 none, Cond.methodLink RX6 3 objectInit, Cond.classLink RX6 9 "[[I", Cond.fieldLink RX6 11 "ElectionHouse$Session" "bodies" "[[I", Cond.fieldLink RX6 16 "ElectionHouse$Session" "sizes" "[I", Cond.fieldLink RX6 20 "ElectionHouse$Session" "row" "[I"] := goodIn_r _ [120, 121, 122, 131, 132, 133, 134, 135, 151, 152, 153, 154, 170, 171, 172, 173, 191, 192, 193, 194, 195, 222, 223, 224] (by decide +kernel) (by decide +kernel)
set_option maxRecDepth 40000 in
theorem hg_wsX9_init_r3 : GoodIn lw_tbl wsX9_init_r3 := hgl_4
set_option maxRecDepth 40000 in
theorem hgl_5 : GoodIn lw_tbl [Cond.fieldLink RX6 23 "ElectionHouse$Session" "ofHouse" "[I", Cond.classLink RX6 26 RX3, Cond.fieldLink RX6 29 "ElectionHouse$Session" "plan" "LElectionHouse$Plan;", Cond.fieldLink RX6 33 "ElectionHouse$Session" "head" "I", Cond.fieldLink RX6 37 "ElectionHouse$Session" "city" "LElectionHouse$City;", Cond.fieldLink RX6 41 "ElectionHouse$Session" "lots" "LElectionHouse$LotRow;", Cond.fieldLink RX6 45 "ElectionHouse$Session" "poll" "LElectionHouse$Poll;", Cond.instanceMethod yX3_init, Cond.code yX3_init cX3_init 1 none, Cond.methodLink RX3 3 objectInit, Cond.fieldLink RX3 9 "ElectionHouse$Plan" "kinds" "[I", Cond.fieldLink RX3 15 "ElectionHouse$Plan" "sizes" "[I", Cond.fieldLink RX3 18 "ElectionHouse$Plan" "votes" "[I", Cond.fieldLink RX3 21 "ElectionHouse$Plan" "limits" "[I", Cond.methodLink RX9 57 yX2_init, Cond.instanceMethod yX2_init, Cond.code yX2_init cX2_init 5 none, Cond.methodLink RX2 3 objectInit, Cond.fieldLink RX2 9 "ElectionHouse$Odds" "sets" "[J", Cond.fieldLink RX2 15 "ElectionHouse$Odds" "later" "[J", Cond.fieldLink RX2 18 "ElectionHouse$Odds" "has" "[I", Cond.fieldLink RX2 22 "ElectionHouse$Odds" "gets" "[I", Cond.fieldLink RX2 25 "ElectionHouse$Odds" "enough" "[Z", Cond.fieldLink RX2 29 "ElectionHouse$Odds" "candidates" "[I"] := goodIn_r _ [225, 197, 226, 228, 219, 220, 221, 200, 201, 202, 203, 204, 205, 206, 252, 253, 254, 255, 277, 278, 279, 280, 281, 282] (by decide +kernel) (by decide +kernel)
set_option maxRecDepth 40000 in
theorem hg_wsX9_init_r4 : GoodIn lw_tbl wsX9_init_r4 := hgl_5
set_option maxRecDepth 40000 in
theorem hgl_6 : GoodIn lw_tbl [Cond.fieldLink RX2 32 "ElectionHouse$Odds" "candidateParties" "[I", Cond.fieldLink RX2 35 "ElectionHouse$Odds" "yes" "[I", Cond.fieldLink RX2 38 "ElectionHouse$Odds" "result" "[J", Cond.fieldLink RX2 41 "ElectionHouse$Odds" "scratch" "[J", Cond.classLink RX2 44 RX7, Cond.instantiable RX7 4, Cond.initialized RX7, Cond.fieldLink RX2 47 "ElectionHouse$Odds" "ahead" "LElectionHouse$Tally;", Cond.fieldLink RX2 51 "ElectionHouse$Odds" "behind" "LElectionHouse$Tally;", Cond.fieldLink RX2 54 "ElectionHouse$Odds" "city" "LElectionHouse$City;", Cond.fieldLink RX2 58 "ElectionHouse$Odds" "session" "LElectionHouse$Session;", Cond.instanceMethod yX7_init, Cond.code yX7_init cX7_init 1 none, Cond.methodLink RX7 3 objectInit, Cond.fieldLink RX7 9 "ElectionHouse$Tally" "keys" "[I", Cond.fieldLink RX7 15 "ElectionHouse$Tally" "ways" "[J", Cond.fieldLink RX7 19 "ElectionHouse$Tally" "slots" "[I"] := goodIn_r _ [283, 284, 286, 287, 256, 257, 68, 288, 289, 275, 276, 259, 260, 261, 262, 263, 264] (by decide +kernel) (by decide +kernel)
set_option maxRecDepth 40000 in
theorem hg_wsX9_init_r5 : GoodIn lw_tbl wsX9_init_r5 := hgl_6
set_option maxRecDepth 40000 in
theorem hg_wsX00 : GoodIn lw_tbl wsX00 := goodIn_r _ [98, 100, 102, 104, 106, 108, 110] (by decide +kernel) (by decide +kernel)
set_option maxRecDepth 40000 in
theorem hg_wsX90 : GoodIn lw_tbl wsX90 := goodIn_r _ [334, 336, 338, 340, 342, 344, 346, 348] (by decide +kernel) (by decide +kernel)
set_option maxRecDepth 40000 in
theorem hg_wsX80 : GoodIn lw_tbl wsX80 := goodIn_r _ [124, 126] (by decide +kernel) (by decide +kernel)
set_option maxRecDepth 40000 in
theorem hg_wsX50 : GoodIn lw_tbl wsX50 := goodIn_r _ [139, 141, 143, 145] (by decide +kernel) (by decide +kernel)
set_option maxRecDepth 40000 in
theorem hg_wsX10 : GoodIn lw_tbl wsX10 := goodIn_r _ [158, 160, 162, 164] (by decide +kernel) (by decide +kernel)
set_option maxRecDepth 40000 in
theorem hg_wsX40 : GoodIn lw_tbl wsX40 := goodIn_r _ [178, 180, 182, 184, 186] (by decide +kernel) (by decide +kernel)
set_option maxRecDepth 40000 in
theorem hg_wsX60 : GoodIn lw_tbl wsX60 := goodIn_r _ [229, 231, 233, 235, 237, 239, 241, 243, 245, 247] (by decide +kernel) (by decide +kernel)
set_option maxRecDepth 40000 in
theorem hg_wsX20 : GoodIn lw_tbl wsX20 := goodIn_r _ [291, 293, 295, 297, 299, 301, 303, 305, 307, 309, 311, 313, 315, 317, 319, 321] (by decide +kernel) (by decide +kernel)
set_option maxRecDepth 40000 in
theorem hg_wsX30 : GoodIn lw_tbl wsX30 := goodIn_r _ [208, 210, 212, 214, 216] (by decide +kernel) (by decide +kernel)
set_option maxRecDepth 40000 in
theorem hg_wsX70 : GoodIn lw_tbl wsX70 := goodIn_r _ [266, 268, 270, 272] (by decide +kernel) (by decide +kernel)
set_option maxRecDepth 40000 in
theorem hg_wsX9_init : GoodIn lw_tbl wsX9_init := goodIn_app (a := [.code yX9_init cX9_init 1 none]) hgl_1 (goodIn_app (goodIn_app (goodIn_app (goodIn_app (goodIn_app (goodIn_app (goodIn_app (goodIn_app (goodIn_app (goodIn_app (goodIn_app (hg_wsX9_init_r1) (goodIn_app (hg_wsX9_init_r2) (goodIn_app (hg_wsX9_init_r3) (goodIn_app (hg_wsX9_init_r4) (hg_wsX9_init_r5))))) (hg_wsX00)) (hg_wsX90)) (hg_wsX80)) (hg_wsX50)) (hg_wsX10)) (hg_wsX40)) (hg_wsX60)) (hg_wsX20)) (hg_wsX30)) (hg_wsX70))
set_option maxRecDepth 40000 in
theorem hL_X9_init : GoodIn lw_tbl wsX9_init := hg_wsX9_init
set_option maxRecDepth 40000 in
theorem hgl_7 : GoodIn lw_tbl [.code yX10_init cX10_init 1 none] := goodIn_r _ [909] (by decide +kernel) (by decide +kernel)
set_option maxRecDepth 40000 in
theorem hgl_8 : GoodIn lw_tbl [Cond.methodLink RX10 1 objectInit, Cond.instanceMethod objectInit, Cond.code objectInit ⟨#[0xb1]⟩ 1 none, Cond.arrayClass .int, Cond.fieldLink RX10 7 "ElectionHouseModel" "house" "[I", Cond.fieldLink RX10 13 "ElectionHouseModel" "party" "[I", Cond.arrayClass .boolean, Cond.fieldLink RX10 16 "ElectionHouseModel" "isThere" "[Z", Cond.fieldLink RX10 20 "ElectionHouseModel" "isKin" "[Z", Cond.fieldLink RX10 23 "ElectionHouseModel" "yes" "[Z", Cond.arrayClass .byte, Cond.fieldLink RX10 26 "ElectionHouseModel" "tape" "[B", Cond.fieldLink RX10 30 "ElectionHouseModel" "kind" "[I", Cond.fieldLink RX10 33 "ElectionHouseModel" "many" "[I", Cond.fieldLink RX10 36 "ElectionHouseModel" "votes" "[I", Cond.fieldLink RX10 39 "ElectionHouseModel" "most" "[I", Cond.fieldLink RX10 42 "ElectionHouseModel" "readKind" "[I", Cond.fieldLink RX10 45 "ElectionHouseModel" "readMany" "[I", Cond.fieldLink RX10 48 "ElectionHouseModel" "readVotes" "[I", Cond.fieldLink RX10 51 "ElectionHouseModel" "readMost" "[I", Cond.fieldLink RX10 54 "ElectionHouseModel" "bodyMany" "[I", Cond.fieldLink RX10 57 "ElectionHouseModel" "bodies" "[I", Cond.fieldLink RX10 60 "ElectionHouseModel" "elected" "I", Cond.fieldLink RX10 64 "ElectionHouseModel" "lots" "[I"] := goodIn_r _ [910, 83, 84, 113, 912, 913, 114, 914, 915, 917, 566, 918, 921, 922, 923, 924, 925, 926, 927, 928, 930, 931, 932, 933] (by decide +kernel) (by decide +kernel)
set_option maxRecDepth 40000 in
theorem hg_wsX10_init_r1 : GoodIn lw_tbl wsX10_init_r1 := hgl_8
set_option maxRecDepth 40000 in
theorem hgl_9 : GoodIn lw_tbl [Cond.fieldLink RX10 67 "ElectionHouseModel" "letters" "[I", Cond.fieldLink RX10 70 "ElectionHouseModel" "balloted" "I", Cond.fieldLink RX10 73 "ElectionHouseModel" "ballot" "[I", Cond.fieldLink RX10 76 "ElectionHouseModel" "left" "[I", Cond.fieldLink RX10 79 "ElectionHouseModel" "key" "[I", Cond.arrayClass .long, Cond.fieldLink RX10 82 "ElectionHouseModel" "way" "[J", Cond.fieldLink RX10 86 "ElectionHouseModel" "nextKey" "[I", Cond.fieldLink RX10 89 "ElectionHouseModel" "nextWay" "[J", Cond.fieldLink RX10 92 "ElectionHouseModel" "told" "[J", Cond.fieldLink RX10 95 "ElectionHouseModel" "electedBy" "[J"] := goodIn_r _ [942, 944, 948, 949, 951, 115, 952, 954, 955, 956, 959] (by decide +kernel) (by decide +kernel)
set_option maxRecDepth 40000 in
theorem hg_wsX10_init_r2 : GoodIn lw_tbl wsX10_init_r2 := hgl_9
set_option maxRecDepth 40000 in
theorem hg_wsX100 : GoodIn lw_tbl wsX100 := goodIn_r _ [961, 963, 965, 967, 969, 971, 973, 975, 977, 979, 981, 983, 985, 987, 989, 991, 993, 995, 997, 999, 1001, 1003, 1005, 1007, 1009, 1011, 1013, 1015, 1017, 1019, 1021, 1023, 1025, 1027, 1029, 1031, 1033, 1035, 1037, 1039, 1041, 1043, 1045, 1047, 1049, 1051, 1053, 1055, 1057, 1059] (by decide +kernel) (by decide +kernel)
set_option maxRecDepth 40000 in
theorem hg_wsX10_init : GoodIn lw_tbl wsX10_init := goodIn_app (a := [.code yX10_init cX10_init 1 none]) hgl_7 (goodIn_app (goodIn_app (hg_wsX10_init_r1) (hg_wsX10_init_r2)) (hg_wsX100))
set_option maxRecDepth 40000 in
theorem hL_X10_init : GoodIn lw_tbl wsX10_init := hg_wsX10_init
set_option maxRecDepth 40000 in
theorem hgl_10 : GoodIn lw_tbl [.code yX9_citizen cX9_citizen 3 (some .int)] := goodIn_r _ [354] (by decide +kernel) (by decide +kernel)
set_option maxRecDepth 40000 in
theorem hgl_11 : GoodIn lw_tbl [.fieldLink RX9 51 "ElectionHouse" "session" "LElectionHouse$Session;", .fieldLink RX9 12 "ElectionHouse" "city" "LElectionHouse$City;", .methodLink RX9 71 yX6_stepsDone, .instanceMethod yX6_stepsDone, .selects RX6 yX6_stepsDone yX6_stepsDone, .initialized RX6, .code yX6_stepsDone cX6_stepsDone 1 (some .int), .fieldLink RX6 49 "ElectionHouse$Session" "done" "I", .methodLink RX9 75 yX0_settle, .instanceMethod yX0_settle, .selects RX0 yX0_settle yX0_settle, .initialized RX0, .code yX0_settle cX0_settle 4 (some .int), .fieldLink RX0 29 "ElectionHouse$City" "size" "I", .fieldLink RX0 9 "ElectionHouse$City" "houses" "[I", .fieldLink RX0 15 "ElectionHouse$City" "parties" "[I", .fieldLink RX0 18 "ElectionHouse$City" "present" "[Z", .methodLink RX0 36 yX0_isHouse, .static yX0_isHouse, .code yX0_isHouse cX0_isHouse 1 (some .boolean), .methodLink RX0 40 yX0_isParty, .static yX0_isParty, .code yX0_isParty cX0_isParty 1 (some .boolean)] := goodIn_r _ [331, 326, 355, 356, 357, 65, 358, 227, 359, 360, 361, 60, 362, 96, 91, 92, 93, 363, 364, 365, 366, 367, 368] (by decide +kernel) (by decide +kernel)
set_option maxRecDepth 40000 in
theorem hg_wsX9_citizen : GoodIn lw_tbl wsX9_citizen := goodIn_app (a := [.code yX9_citizen cX9_citizen 3 (some .int)]) hgl_10 (goodIn_app (goodIn_app (goodIn_app (hgl_11) (hg_wsX90)) (hg_wsX60)) (hg_wsX00))
set_option maxRecDepth 40000 in
theorem hgl_12 : GoodIn lw_tbl [.methodLink RL 13 yX9_citizen, .instanceMethod yX9_citizen, .selects RX9 yX9_citizen yX9_citizen, .initialized RX9] := goodIn_r _ [351, 352, 353, 59] (by decide +kernel) (by decide +kernel)
set_option maxRecDepth 40000 in
theorem hL_X9_citizen : GoodIn lw_tbl (wsV RL 13 RX9 yX9_citizen wsX9_citizen) := goodIn_app (a := [.methodLink RL 13 yX9_citizen, .instanceMethod yX9_citizen, .selects RX9 yX9_citizen yX9_citizen, .initialized RX9]) hgl_12 hg_wsX9_citizen
set_option maxRecDepth 40000 in
theorem hgl_13 : GoodIn lw_tbl [.code yX10_citizen cX10_citizen 3 (some .int)] := goodIn_r _ [1065] (by decide +kernel) (by decide +kernel)
set_option maxRecDepth 40000 in
theorem hgl_14 : GoodIn lw_tbl [.fieldLink RX10 98 "ElectionHouseModel" "citizens" "I", .fieldLink RX10 105 "ElectionHouseModel" "done" "I", .fieldLink RX10 7 "ElectionHouseModel" "house" "[I", .fieldLink RX10 13 "ElectionHouseModel" "party" "[I", .fieldLink RX10 16 "ElectionHouseModel" "isThere" "[Z", .methodLink RX10 101 yX10_in, .static yX10_in, .initialized RX10, .code yX10_in cX10_in 3 (some .boolean), .methodLink RX10 108 yX10_begins, .instanceMethod yX10_begins, .selects RX10 yX10_begins yX10_begins, .code yX10_begins cX10_begins 2 none, .fieldLink RX10 54 "ElectionHouseModel" "bodyMany" "[I", .fieldLink RX10 57 "ElectionHouseModel" "bodies" "[I"] := goodIn_r _ [911, 929, 912, 913, 914, 1066, 1067, 69, 1068, 1069, 1071, 39, 1072, 930, 931] (by decide +kernel) (by decide +kernel)
set_option maxRecDepth 40000 in
theorem hg_wsX10_citizen : GoodIn lw_tbl wsX10_citizen := goodIn_app (a := [.code yX10_citizen cX10_citizen 3 (some .int)]) hgl_13 (goodIn_app (hgl_14) (hg_wsX100))
set_option maxRecDepth 40000 in
theorem hgl_15 : GoodIn lw_tbl [.methodLink RL 17 yX10_citizen, .instanceMethod yX10_citizen, .selects RX10 yX10_citizen yX10_citizen, .initialized RX10] := goodIn_r _ [1062, 1063, 1064, 69] (by decide +kernel) (by decide +kernel)
set_option maxRecDepth 40000 in
theorem hL_X10_citizen : GoodIn lw_tbl (wsV RL 17 RX10 yX10_citizen wsX10_citizen) := goodIn_app (a := [.methodLink RL 17 yX10_citizen, .instanceMethod yX10_citizen, .selects RX10 yX10_citizen yX10_citizen, .initialized RX10]) hgl_15 hg_wsX10_citizen
set_option maxRecDepth 40000 in
theorem hgl_16 : GoodIn lw_tbl [.code yX9_there cX9_there 3 (some .boolean)] := goodIn_r _ [372] (by decide +kernel) (by decide +kernel)
set_option maxRecDepth 40000 in
theorem hgl_17 : GoodIn lw_tbl [.fieldLink RX9 12 "ElectionHouse" "city" "LElectionHouse$City;", .methodLink RX9 79 yX0_setThere, .instanceMethod yX0_setThere, .selects RX0 yX0_setThere yX0_setThere, .initialized RX0, .code yX0_setThere cX0_setThere 3 (some .boolean), .fieldLink RX0 18 "ElectionHouse$City" "present" "[Z", .methodLink RX0 43 yX0_has, .instanceMethod yX0_has, .selects RX0 yX0_has yX0_has, .code yX0_has cX0_has 2 (some .boolean), .fieldLink RX0 29 "ElectionHouse$City" "size" "I"] := goodIn_r _ [326, 373, 374, 375, 60, 376, 93, 377, 378, 379, 380, 96] (by decide +kernel) (by decide +kernel)
set_option maxRecDepth 40000 in
theorem hg_wsX9_there : GoodIn lw_tbl wsX9_there := goodIn_app (a := [.code yX9_there cX9_there 3 (some .boolean)]) hgl_16 (goodIn_app (goodIn_app (hgl_17) (hg_wsX90)) (hg_wsX00))
set_option maxRecDepth 40000 in
theorem hgl_18 : GoodIn lw_tbl [.methodLink RL 18 yX9_there, .instanceMethod yX9_there, .selects RX9 yX9_there yX9_there, .initialized RX9] := goodIn_r _ [369, 370, 371, 59] (by decide +kernel) (by decide +kernel)
