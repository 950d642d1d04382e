def wsL_law_r1 : List Cond := [Cond.classLink RL 7 RX9, Cond.instantiable RX9 8, Cond.initialized RX9, Cond.classLink RL 10 RX10, Cond.instantiable RX10 50, Cond.initialized RX10, Cond.methodLink RL 9 yX9_init, Cond.instanceMethod yX9_init, Cond.code yX9_init cX9_init 1 none, Cond.methodLink RX9 3 objectInit, Cond.instanceMethod objectInit, Cond.code objectInit ⟨#[0xb1]⟩ 1 none, Cond.classLink RX9 9 RX0, Cond.instantiable RX0 7, Cond.initialized RX0, Cond.fieldLink RX9 12 "ElectionHouse" "city" "LElectionHouse$City;", Cond.classLink RX9 16 RX8, Cond.instantiable RX8 2, Cond.initialized RX8, Cond.fieldLink RX9 19 "ElectionHouse" "tape" "LElectionHouse$Tape;", Cond.classLink RX9 23 RX5, Cond.instantiable RX5 4, Cond.initialized RX5, Cond.fieldLink RX9 28 "ElectionHouse" "reader" "LElectionHouse$Reader;"]
def wsL_law_r2 : List Cond := [Cond.classLink RX9 32 RX1, Cond.instantiable RX1 4, Cond.initialized RX1, Cond.fieldLink RX9 35 "ElectionHouse" "lots" "LElectionHouse$LotRow;", Cond.classLink RX9 39 RX4, Cond.instantiable RX4 5, Cond.initialized RX4, Cond.fieldLink RX9 42 "ElectionHouse" "poll" "LElectionHouse$Poll;", Cond.classLink RX9 46 RX6, Cond.instantiable RX6 10, Cond.initialized RX6, Cond.fieldLink RX9 51 "ElectionHouse" "session" "LElectionHouse$Session;", Cond.classLink RX9 55 RX2, Cond.instantiable RX2 16, Cond.initialized RX2, Cond.fieldLink RX9 60 "ElectionHouse" "odds" "LElectionHouse$Odds;", Cond.classLink RX9 64 RX3, Cond.instantiable RX3 5, Cond.initialized RX3, Cond.fieldLink RX9 67 "ElectionHouse" "draft" "LElectionHouse$Plan;", Cond.methodLink RX9 11 yX0_init, Cond.instanceMethod yX0_init, Cond.code yX0_init cX0_init 2 none, Cond.methodLink RX0 3 objectInit]
def wsL_law_r3 : List Cond := [Cond.arrayClass .int, Cond.fieldLink RX0 9 "ElectionHouse$City" "houses" "[I", Cond.fieldLink RX0 15 "ElectionHouse$City" "parties" "[I", Cond.arrayClass .boolean, Cond.fieldLink RX0 18 "ElectionHouse$City" "present" "[Z", Cond.fieldLink RX0 22 "ElectionHouse$City" "yes" "[Z", Cond.arrayClass .long, Cond.fieldLink RX0 25 "ElectionHouse$City" "told" "[J", Cond.instanceMethod yX8_init, Cond.code yX8_init cX8_init 1 none, Cond.methodLink RX8 3 objectInit, Cond.fieldLink RX8 9 "ElectionHouse$Tape" "bytes" "[I", Cond.methodLink RX9 25 yX5_init, Cond.instanceMethod yX5_init, Cond.code yX5_init cX5_init 2 none, Cond.methodLink RX5 3 objectInit, Cond.fieldLink RX5 9 "ElectionHouse$Reader" "tape" "LElectionHouse$Tape;", Cond.instanceMethod yX1_init, Cond.code yX1_init cX1_init 1 none, Cond.methodLink RX1 3 objectInit, Cond.fieldLink RX1 9 "ElectionHouse$LotRow" "ring" "[I", Cond.instanceMethod yX4_init, Cond.code yX4_init cX4_init 1 none, Cond.methodLink RX4 3 objectInit]
def wsL_law_r4 : List Cond := [Cond.fieldLink RX4 9 "ElectionHouse$Poll" "votes" "[I", Cond.methodLink RX9 48 yX6_init, Cond.instanceMethod yX6_init, Cond.code yX6_init cX6_init 4 none, Cond.methodLink RX6 3 objectInit, Cond.classLink RX6 9 "[[I", Cond.fieldLink RX6 11 "ElectionHouse$Session" "bodies" "[[I", Cond.fieldLink RX6 16 "ElectionHouse$Session" "sizes" "[I", Cond.fieldLink RX6 20 "ElectionHouse$Session" "row" "[I", Cond.fieldLink RX6 23 "ElectionHouse$Session" "ofHouse" "[I", Cond.classLink RX6 26 RX3, Cond.fieldLink RX6 29 "ElectionHouse$Session" "plan" "LElectionHouse$Plan;", Cond.fieldLink RX6 33 "ElectionHouse$Session" "head" "I", Cond.fieldLink RX6 37 "ElectionHouse$Session" "city" "LElectionHouse$City;", Cond.fieldLink RX6 41 "ElectionHouse$Session" "lots" "LElectionHouse$LotRow;", Cond.fieldLink RX6 45 "ElectionHouse$Session" "poll" "LElectionHouse$Poll;", Cond.instanceMethod yX3_init, Cond.code yX3_init cX3_init 1 none, Cond.methodLink RX3 3 objectInit, Cond.fieldLink RX3 9 "ElectionHouse$Plan" "kinds" "[I", Cond.fieldLink RX3 15 "ElectionHouse$Plan" "sizes" "[I", Cond.fieldLink RX3 18 "ElectionHouse$Plan" "votes" "[I", Cond.fieldLink RX3 21 "ElectionHouse$Plan" "limits" "[I", Cond.methodLink RX9 57 yX2_init]
def wsL_law_r5 : List Cond := [Cond.instanceMethod yX2_init, Cond.code yX2_init cX2_init 5 none, Cond.methodLink RX2 3 objectInit, Cond.fieldLink RX2 9 "ElectionHouse$Odds" "sets" "[J", Cond.fieldLink RX2 15 "ElectionHouse$Odds" "later" "[J", Cond.fieldLink RX2 18 "ElectionHouse$Odds" "has" "[I", Cond.fieldLink RX2 22 "ElectionHouse$Odds" "gets" "[I", Cond.fieldLink RX2 25 "ElectionHouse$Odds" "enough" "[Z", Cond.fieldLink RX2 29 "ElectionHouse$Odds" "candidates" "[I", Cond.fieldLink RX2 32 "ElectionHouse$Odds" "candidateParties" "[I", Cond.fieldLink RX2 35 "ElectionHouse$Odds" "yes" "[I", Cond.fieldLink RX2 38 "ElectionHouse$Odds" "result" "[J", Cond.fieldLink RX2 41 "ElectionHouse$Odds" "scratch" "[J", Cond.classLink RX2 44 RX7, Cond.instantiable RX7 4, Cond.initialized RX7, Cond.fieldLink RX2 47 "ElectionHouse$Odds" "ahead" "LElectionHouse$Tally;", Cond.fieldLink RX2 51 "ElectionHouse$Odds" "behind" "LElectionHouse$Tally;", Cond.fieldLink RX2 54 "ElectionHouse$Odds" "city" "LElectionHouse$City;", Cond.fieldLink RX2 58 "ElectionHouse$Odds" "session" "LElectionHouse$Session;", Cond.instanceMethod yX7_init, Cond.code yX7_init cX7_init 1 none, Cond.methodLink RX7 3 objectInit, Cond.fieldLink RX7 9 "ElectionHouse$Tally" "keys" "[I"]
def wsL_law_r6 : List Cond := [Cond.fieldLink RX7 15 "ElectionHouse$Tally" "ways" "[J", Cond.fieldLink RX7 19 "ElectionHouse$Tally" "slots" "[I", Cond.methodLink RL 12 yX10_init, Cond.instanceMethod yX10_init, Cond.code yX10_init cX10_init 1 none, Cond.methodLink RX10 1 objectInit, Cond.fieldLink RX10 7 "ElectionHouseModel" "house" "[I", Cond.fieldLink RX10 13 "ElectionHouseModel" "party" "[I", Cond.fieldLink RX10 16 "ElectionHouseModel" "isThere" "[Z", Cond.fieldLink RX10 20 "ElectionHouseModel" "isKin" "[Z", Cond.fieldLink RX10 23 "ElectionHouseModel" "yes" "[Z", Cond.arrayClass .byte, Cond.fieldLink RX10 26 "ElectionHouseModel" "tape" "[B", Cond.fieldLink RX10 30 "ElectionHouseModel" "kind" "[I", Cond.fieldLink RX10 33 "ElectionHouseModel" "many" "[I", Cond.fieldLink RX10 36 "ElectionHouseModel" "votes" "[I", Cond.fieldLink RX10 39 "ElectionHouseModel" "most" "[I", Cond.fieldLink RX10 42 "ElectionHouseModel" "readKind" "[I", Cond.fieldLink RX10 45 "ElectionHouseModel" "readMany" "[I", Cond.fieldLink RX10 48 "ElectionHouseModel" "readVotes" "[I", Cond.fieldLink RX10 51 "ElectionHouseModel" "readMost" "[I", Cond.fieldLink RX10 54 "ElectionHouseModel" "bodyMany" "[I", Cond.fieldLink RX10 57 "ElectionHouseModel" "bodies" "[I", Cond.fieldLink RX10 60 "ElectionHouseModel" "elected" "I"]
def wsL_law_r7 : List Cond := [Cond.fieldLink RX10 64 "ElectionHouseModel" "lots" "[I", Cond.fieldLink RX10 67 "ElectionHouseModel" "letters" "[I", Cond.fieldLink RX10 70 "ElectionHouseModel" "balloted" "I", Cond.fieldLink RX10 73 "ElectionHouseModel" "ballot" "[I", Cond.fieldLink RX10 76 "ElectionHouseModel" "left" "[I", Cond.fieldLink RX10 79 "ElectionHouseModel" "key" "[I", Cond.fieldLink RX10 82 "ElectionHouseModel" "way" "[J", Cond.fieldLink RX10 86 "ElectionHouseModel" "nextKey" "[I", Cond.fieldLink RX10 89 "ElectionHouseModel" "nextWay" "[J", Cond.fieldLink RX10 92 "ElectionHouseModel" "told" "[J", Cond.fieldLink RX10 95 "ElectionHouseModel" "electedBy" "[J", Cond.methodLink RL 13 yX9_citizen, Cond.instanceMethod yX9_citizen, Cond.selects RX9 yX9_citizen yX9_citizen, Cond.code yX9_citizen cX9_citizen 3 (some .int), Cond.methodLink RX9 71 yX6_stepsDone, Cond.instanceMethod yX6_stepsDone, Cond.selects RX6 yX6_stepsDone yX6_stepsDone, Cond.code yX6_stepsDone cX6_stepsDone 1 (some .int), Cond.fieldLink RX6 49 "ElectionHouse$Session" "done" "I", Cond.methodLink RX9 75 yX0_settle, Cond.instanceMethod yX0_settle, Cond.selects RX0 yX0_settle yX0_settle, Cond.code yX0_settle cX0_settle 4 (some .int)]
def wsL_law_r8 : List Cond := [Cond.fieldLink RX0 29 "ElectionHouse$City" "size" "I", Cond.methodLink RX0 36 yX0_isHouse, Cond.static yX0_isHouse, Cond.code yX0_isHouse cX0_isHouse 1 (some .boolean), Cond.methodLink RX0 40 yX0_isParty, Cond.static yX0_isParty, Cond.code yX0_isParty cX0_isParty 1 (some .boolean), Cond.methodLink RL 17 yX10_citizen, Cond.instanceMethod yX10_citizen, Cond.selects RX10 yX10_citizen yX10_citizen, Cond.code yX10_citizen cX10_citizen 3 (some .int), Cond.fieldLink RX10 98 "ElectionHouseModel" "citizens" "I", Cond.fieldLink RX10 105 "ElectionHouseModel" "done" "I", Cond.methodLink RX10 101 yX10_in, Cond.static yX10_in, Cond.code yX10_in cX10_in 3 (some .boolean), Cond.methodLink RX10 108 yX10_begins, Cond.instanceMethod yX10_begins, Cond.selects RX10 yX10_begins yX10_begins, Cond.code yX10_begins cX10_begins 2 none, Cond.methodLink RL 18 yX9_there, Cond.instanceMethod yX9_there, Cond.selects RX9 yX9_there yX9_there, Cond.code yX9_there cX9_there 3 (some .boolean)]
def wsL_law_r9 : List Cond := [Cond.methodLink RX9 79 yX0_setThere, Cond.instanceMethod yX0_setThere, Cond.selects RX0 yX0_setThere yX0_setThere, Cond.code yX0_setThere cX0_setThere 3 (some .boolean), Cond.methodLink RX0 43 yX0_has, Cond.instanceMethod yX0_has, Cond.selects RX0 yX0_has yX0_has, Cond.code yX0_has cX0_has 2 (some .boolean), Cond.methodLink RL 22 yX10_there, Cond.instanceMethod yX10_there, Cond.selects RX10 yX10_there yX10_there, Cond.code yX10_there cX10_there 3 (some .boolean), Cond.methodLink RX10 111 yX10_isCitizen, Cond.instanceMethod yX10_isCitizen, Cond.selects RX10 yX10_isCitizen yX10_isCitizen, Cond.code yX10_isCitizen cX10_isCitizen 2 (some .boolean), Cond.methodLink RL 23 yX9_kin, Cond.instanceMethod yX9_kin, Cond.selects RX9 yX9_kin yX9_kin, Cond.code yX9_kin cX9_kin 3 (some .boolean), Cond.methodLink RX9 83 yX0_tellKin, Cond.instanceMethod yX0_tellKin, Cond.selects RX0 yX0_tellKin yX0_tellKin, Cond.code yX0_tellKin cX0_tellKin 3 (some .boolean)]
def wsL_law_r10 : List Cond := [Cond.fieldLink RX0 33 "ElectionHouse$City" "pairs" "I", Cond.methodLink RX0 46 yX0_wasTold, Cond.instanceMethod yX0_wasTold, Cond.selects RX0 yX0_wasTold yX0_wasTold, Cond.code yX0_wasTold cX0_wasTold 3 (some .boolean), Cond.methodLink RL 27 yX10_kin, Cond.instanceMethod yX10_kin, Cond.selects RX10 yX10_kin yX10_kin, Cond.code yX10_kin cX10_kin 3 (some .boolean), Cond.fieldLink RX10 115 "ElectionHouseModel" "pairs" "I", Cond.methodLink RL 28 yX9_says, Cond.instanceMethod yX9_says, Cond.selects RX9 yX9_says yX9_says, Cond.code yX9_says cX9_says 4 (some .boolean), Cond.methodLink RX9 87 yX0_setYes, Cond.instanceMethod yX0_setYes, Cond.selects RX0 yX0_setYes yX0_setYes, Cond.code yX0_setYes cX0_setYes 5 (some .boolean), Cond.methodLink RL 32 yX10_says, Cond.instanceMethod yX10_says, Cond.selects RX10 yX10_says yX10_says, Cond.code yX10_says cX10_says 4 (some .boolean), Cond.methodLink RL 33 yX9_turn, Cond.instanceMethod yX9_turn]
def wsL_law_r11 : List Cond := [Cond.selects RX9 yX9_turn yX9_turn, Cond.code yX9_turn cX9_turn 4 (some .boolean), Cond.methodLink RX9 91 yX0_convert, Cond.instanceMethod yX0_convert, Cond.selects RX0 yX0_convert yX0_convert, Cond.code yX0_convert cX0_convert 4 (some .boolean), Cond.methodLink RL 37 yX10_turn, Cond.instanceMethod yX10_turn, Cond.selects RX10 yX10_turn yX10_turn, Cond.code yX10_turn cX10_turn 4 (some .boolean), Cond.methodLink RL 38 yX9_feed, Cond.instanceMethod yX9_feed, Cond.selects RX9 yX9_feed yX9_feed, Cond.code yX9_feed cX9_feed 6 (some .int), Cond.methodLink RX9 95 yX8_hasRoom, Cond.instanceMethod yX8_hasRoom, Cond.selects RX8 yX8_hasRoom yX8_hasRoom, Cond.code yX8_hasRoom cX8_hasRoom 2 (some .boolean), Cond.fieldLink RX8 15 "ElectionHouse$Tape" "length" "I", Cond.methodLink RX9 99 yX8_append, Cond.instanceMethod yX8_append, Cond.selects RX8 yX8_append yX8_append, Cond.code yX8_append cX8_append 3 none, Cond.methodLink RX8 19 yX8_hasRoom]
def wsL_law_r12 : List Cond := [Cond.methodLink RX9 103 yX8_length, Cond.instanceMethod yX8_length, Cond.selects RX8 yX8_length yX8_length, Cond.code yX8_length cX8_length 1 (some .int), Cond.methodLink RL 42 yX10_feed, Cond.instanceMethod yX10_feed, Cond.selects RX10 yX10_feed yX10_feed, Cond.code yX10_feed cX10_feed 6 (some .int), Cond.fieldLink RX10 118 "ElectionHouseModel" "taped" "I", Cond.methodLink RX10 121 yX10_four, Cond.instanceMethod yX10_four, Cond.selects RX10 yX10_four yX10_four, Cond.code yX10_four cX10_four 3 none, Cond.methodLink RL 43 yX9_end, Cond.instanceMethod yX9_end, Cond.selects RX9 yX9_end yX9_end, Cond.code yX9_end cX9_end 2 (some .int), Cond.methodLink RX9 106 yX8_cut, Cond.instanceMethod yX8_cut, Cond.selects RX8 yX8_cut yX8_cut, Cond.code yX8_cut cX8_cut 2 (some .boolean), Cond.methodLink RL 47 yX10_end, Cond.instanceMethod yX10_end, Cond.selects RX10 yX10_end yX10_end]
def wsL_law_r13 : List Cond := [Cond.code yX10_end cX10_end 2 (some .int), Cond.methodLink RL 48 yX9_procedure, Cond.instanceMethod yX9_procedure, Cond.selects RX9 yX9_procedure yX9_procedure, Cond.code yX9_procedure cX9_procedure 2 (some .int), Cond.methodLink RX9 109 yX5_read, Cond.instanceMethod yX5_read, Cond.selects RX5 yX5_read yX5_read, Cond.code yX5_read cX5_read 4 (some .int), Cond.fieldLink RX5 15 "ElectionHouse$Reader" "place" "I", Cond.fieldLink RX5 19 "ElectionHouse$Reader" "bodyByText" "I", Cond.fieldLink RX5 22 "ElectionHouse$Reader" "fault" "I", Cond.methodLink RX5 25 yX3_clear, Cond.instanceMethod yX3_clear, Cond.selects RX3 yX3_clear yX3_clear, Cond.code yX3_clear cX3_clear 1 none, Cond.fieldLink RX3 24 "ElectionHouse$Plan" "length" "I", Cond.methodLink RX5 30 yX5_readStep, Cond.instanceMethod yX5_readStep, Cond.selects RX5 yX5_readStep yX5_readStep, Cond.code yX5_readStep cX5_readStep 10 (some .boolean), Cond.methodLink RX5 34 yX5_skipBlanks, Cond.instanceMethod yX5_skipBlanks, Cond.selects RX5 yX5_skipBlanks yX5_skipBlanks]
def wsL_law_r14 : List Cond := [Cond.code yX5_skipBlanks cX5_skipBlanks 1 none, Cond.methodLink RX5 76 yX8_length, Cond.methodLink RX5 66 yX8_at, Cond.instanceMethod yX8_at, Cond.selects RX8 yX8_at yX8_at, Cond.code yX8_at cX8_at 2 (some .int), Cond.methodLink RX5 37 yX5_takeWord, Cond.instanceMethod yX5_takeWord, Cond.selects RX5 yX5_takeWord yX5_takeWord, Cond.code yX5_takeWord cX5_takeWord 2 (some .int), Cond.methodLink RX5 72 yX5_isLetter, Cond.static yX5_isLetter, Cond.code yX5_isLetter cX5_isLetter 1 (some .boolean), Cond.methodLink RX5 84 yX5_spells, Cond.instanceMethod yX5_spells, Cond.selects RX5 yX5_spells yX5_spells, Cond.code yX5_spells cX5_spells 4 (some .boolean), Cond.methodLink RX5 96 yJ0_length_8abf5, Cond.instanceMethod yJ0_length_8abf5, Cond.selects RJ0 yJ0_length_8abf5 yJ0_length_8abf5, Cond.initialized RJ0, Cond.code yJ0_length_8abf5 cJ0_length_8abf5 1 (some .int), Cond.fieldLink RJ0 9 "java/lang/String" "value" "[B", Cond.methodLink RJ0 335 yJ0_coder_7d493]
def wsL_law_r15 : List Cond := [Cond.instanceMethod yJ0_coder_7d493, Cond.selects RJ0 yJ0_coder_7d493 yJ0_coder_7d493, Cond.code yJ0_coder_7d493 cJ0_coder_7d493 1 (some .byte), Cond.fieldLink RJ0 38 "java/lang/String" "COMPACT_STRINGS" "Z", Cond.fieldLink RJ0 15 "java/lang/String" "coder" "B", Cond.methodLink RX5 99 yJ0_charAt_5068e, Cond.instanceMethod yJ0_charAt_5068e, Cond.selects RJ0 yJ0_charAt_5068e yJ0_charAt_5068e, Cond.code yJ0_charAt_5068e cJ0_charAt_5068e 2 (some .char), Cond.methodLink RJ0 492 yJ0_isLatin1_aae02, Cond.instanceMethod yJ0_isLatin1_aae02, Cond.selects RJ0 yJ0_isLatin1_aae02 yJ0_isLatin1_aae02, Cond.code yJ0_isLatin1_aae02 cJ0_isLatin1_aae02 1 (some .boolean), Cond.methodLink RJ0 495 yJ1_charAt_3b067, Cond.static yJ1_charAt_3b067, Cond.initialized RJ1, Cond.code yJ1_charAt_3b067 cJ1_charAt_3b067 2 (some .char), Cond.methodLink RJ1 9 yJ0_checkIndex_df160, Cond.static yJ0_checkIndex_df160, Cond.code yJ0_checkIndex_df160 cJ0_checkIndex_df160 2 none, Cond.fieldLink RJ0 1053 "jdk/internal/util/Preconditions" "SIOOBE_FORMATTER" "Ljava/util/function/BiFunction;", Cond.methodLink RJ0 1059 yJ3_checkIndex_8e157, Cond.static yJ3_checkIndex_8e157, Cond.initialized RJ3]
def wsL_law_r16 : List Cond := [Cond.code yJ3_checkIndex_8e157 cJ3_checkIndex_8e157 3 (some .int), Cond.methodLink RJ0 498 yJ2_charAt_3b067, Cond.static yJ2_charAt_3b067, Cond.initialized RJ2, Cond.code yJ2_charAt_3b067 cJ2_charAt_3b067 2 (some .char), Cond.methodLink RJ2 67 yJ2_checkIndex_2214a, Cond.static yJ2_checkIndex_2214a, Cond.code yJ2_checkIndex_2214a cJ2_checkIndex_2214a 2 none, Cond.methodLink RJ2 48 yJ2_length_9d52b, Cond.static yJ2_length_9d52b, Cond.code yJ2_length_9d52b cJ2_length_9d52b 1 (some .int), Cond.methodLink RJ2 414 yJ0_checkIndex_df160, Cond.methodLink RJ2 71 yJ2_getChar_3b067, Cond.static yJ2_getChar_3b067, Cond.code yJ2_getChar_3b067 cJ2_getChar_3b067 2 (some .char), Cond.fieldLink RJ2 44 "java/lang/StringUTF16" "$assertionsDisabled" "Z", Cond.fieldLink RJ2 59 "java/lang/StringUTF16" "HI_BYTE_SHIFT" "I", Cond.fieldLink RJ2 63 "java/lang/StringUTF16" "LO_BYTE_SHIFT" "I", Cond.methodLink RX5 41 yX5_fail, Cond.instanceMethod yX5_fail, Cond.selects RX5 yX5_fail yX5_fail, Cond.code yX5_fail cX5_fail 3 (some .boolean), Cond.methodLink RX5 45 yX5_takeNumber, Cond.instanceMethod yX5_takeNumber]
def wsL_law_r17 : List Cond := [Cond.selects RX5 yX5_takeNumber yX5_takeNumber, Cond.code yX5_takeNumber cX5_takeNumber 6 (some .int), Cond.methodLink RX5 79 yX5_isDigit, Cond.static yX5_isDigit, Cond.code yX5_isDigit cX5_isDigit 1 (some .boolean), Cond.methodLink RX5 49 yX5_takeVotes, Cond.instanceMethod yX5_takeVotes, Cond.selects RX5 yX5_takeVotes yX5_takeVotes, Cond.code yX5_takeVotes cX5_takeVotes 2 (some .int), Cond.methodLink RX5 52 yX5_takeHouseLimit, Cond.instanceMethod yX5_takeHouseLimit, Cond.selects RX5 yX5_takeHouseLimit yX5_takeHouseLimit, Cond.code yX5_takeHouseLimit cX5_takeHouseLimit 2 (some .int), Cond.methodLink RX5 55 yX5_takeEnd, Cond.instanceMethod yX5_takeEnd, Cond.selects RX5 yX5_takeEnd yX5_takeEnd, Cond.code yX5_takeEnd cX5_takeEnd 1 (some .boolean), Cond.methodLink RX5 59 yX5_takeSemicolon, Cond.instanceMethod yX5_takeSemicolon, Cond.selects RX5 yX5_takeSemicolon yX5_takeSemicolon, Cond.code yX5_takeSemicolon cX5_takeSemicolon 1 (some .boolean), Cond.methodLink RX5 62 yX3_add, Cond.instanceMethod yX3_add, Cond.selects RX3 yX3_add yX3_add]
def wsL_law_r18 : List Cond := [Cond.code yX3_add cX3_add 5 none, Cond.methodLink RX9 113 yX6_begin, Cond.instanceMethod yX6_begin, Cond.selects RX6 yX6_begin yX6_begin, Cond.code yX6_begin cX6_begin 3 (some (.object "ElectionHouse$Plan")), Cond.methodLink RX9 117 yX6_stepsInAll, Cond.instanceMethod yX6_stepsInAll, Cond.selects RX6 yX6_stepsInAll yX6_stepsInAll, Cond.code yX6_stepsInAll cX6_stepsInAll 1 (some .int), Cond.methodLink RX6 52 yX3_length, Cond.instanceMethod yX3_length, Cond.selects RX3 yX3_length yX3_length, Cond.code yX3_length cX3_length 1 (some .int), Cond.methodLink RL 52 yX10_procedure, Cond.instanceMethod yX10_procedure, Cond.selects RX10 yX10_procedure yX10_procedure, Cond.code yX10_procedure cX10_procedure 6 (some .int), Cond.fieldLink RX10 128 "ElectionHouseModel" "next" "I", Cond.fieldLink RX10 125 "ElectionHouseModel" "fault" "I", Cond.fieldLink RX10 161 "ElectionHouseModel" "bodyByText" "I", Cond.fieldLink RX10 171 "ElectionHouseModel" "steps" "I", Cond.methodLink RX10 168 yX10_oneStep, Cond.instanceMethod yX10_oneStep, Cond.selects RX10 yX10_oneStep yX10_oneStep]
def wsL_law_r19 : List Cond := [Cond.code yX10_oneStep cX10_oneStep 5 (some .boolean), Cond.fieldLink RX10 135 "ElectionHouseModel" "wordAt" "I", Cond.fieldLink RX10 138 "ElectionHouseModel" "wordSize" "I", Cond.fieldLink RX10 148 "ElectionHouseModel" "said" "I", Cond.fieldLink RX10 145 "ElectionHouseModel" "saidAt" "I", Cond.methodLink RX10 151 yX10_looks, Cond.instanceMethod yX10_looks, Cond.selects RX10 yX10_looks yX10_looks, Cond.code yX10_looks cX10_looks 2 none, Cond.methodLink RX10 131 yX10_see, Cond.instanceMethod yX10_see, Cond.selects RX10 yX10_see yX10_see, Cond.code yX10_see cX10_see 1 (some .int), Cond.methodLink RX10 154 yX10_isWord, Cond.instanceMethod yX10_isWord, Cond.selects RX10 yX10_isWord yX10_isWord, Cond.code yX10_isWord cX10_isWord 9 (some .boolean), Cond.methodLink RX10 141 yX10_fails, Cond.instanceMethod yX10_fails, Cond.selects RX10 yX10_fails yX10_fails, Cond.code yX10_fails cX10_fails 3 (some .boolean), Cond.methodLink RX10 158 yX10_number, Cond.instanceMethod yX10_number, Cond.selects RX10 yX10_number yX10_number]
def wsL_law_r20 : List Cond := [Cond.code yX10_number cX10_number 5 (some .boolean), Cond.methodLink RX10 164 yX10_by, Cond.instanceMethod yX10_by, Cond.selects RX10 yX10_by yX10_by, Cond.code yX10_by cX10_by 1 (some .boolean), Cond.methodLink RL 53 yX9_lot, Cond.instanceMethod yX9_lot, Cond.selects RX9 yX9_lot yX9_lot, Cond.code yX9_lot cX9_lot 2 (some .int), Cond.methodLink RX9 120 yX1_tell, Cond.instanceMethod yX1_tell, Cond.selects RX1 yX1_tell yX1_tell, Cond.code yX1_tell cX1_tell 2 (some .int), Cond.fieldLink RX1 15 "ElectionHouse$LotRow" "waiting" "I", Cond.fieldLink RX1 22 "ElectionHouse$LotRow" "first" "I", Cond.methodLink RL 56 yX10_lot, Cond.instanceMethod yX10_lot, Cond.selects RX10 yX10_lot yX10_lot, Cond.code yX10_lot cX10_lot 2 (some .int), Cond.fieldLink RX10 174 "ElectionHouseModel" "waiting" "I", Cond.methodLink RL 57 yX9_step, Cond.instanceMethod yX9_step, Cond.selects RX9 yX9_step yX9_step, Cond.code yX9_step cX9_step 1 (some .int)]
def wsL_law_r21 : List Cond := [Cond.methodLink RX9 124 yX6_doNext, Cond.instanceMethod yX6_doNext, Cond.selects RX6 yX6_doNext yX6_doNext, Cond.code yX6_doNext cX6_doNext 1 (some .int), Cond.methodLink RX6 71 yX3_kindOf, Cond.instanceMethod yX3_kindOf, Cond.selects RX3 yX3_kindOf yX3_kindOf, Cond.code yX3_kindOf cX3_kindOf 2 (some .int), Cond.methodLink RX3 28 yX3_has, Cond.instanceMethod yX3_has, Cond.selects RX3 yX3_has yX3_has, Cond.code yX3_has cX3_has 2 (some .boolean), Cond.methodLink RX6 75 yX3_sizeOf, Cond.instanceMethod yX3_sizeOf, Cond.selects RX3 yX3_sizeOf yX3_sizeOf, Cond.code yX3_sizeOf cX3_sizeOf 2 (some .int), Cond.methodLink RX6 78 yX6_draw, Cond.instanceMethod yX6_draw, Cond.selects RX6 yX6_draw yX6_draw, Cond.code yX6_draw cX6_draw 7 (some .int), Cond.methodLink RX6 87 arraycopyName, Cond.native arraycopyName, Cond.static arraycopyName, Cond.initialized "java/lang/System"]
def wsL_law_r22 : List Cond := [Cond.methodLink RX6 59 yX6_bodySize, Cond.instanceMethod yX6_bodySize, Cond.selects RX6 yX6_bodySize yX6_bodySize, Cond.code yX6_bodySize cX6_bodySize 1 (some .int), Cond.methodLink RX6 56 yX6_gatherFirstBody, Cond.instanceMethod yX6_gatherFirstBody, Cond.selects RX6 yX6_gatherFirstBody yX6_gatherFirstBody, Cond.code yX6_gatherFirstBody cX6_gatherFirstBody 3 none, Cond.methodLink RX6 62 yX0_size, Cond.instanceMethod yX0_size, Cond.selects RX0 yX0_size yX0_size, Cond.code yX0_size cX0_size 1 (some .int), Cond.methodLink RX6 67 yX0_isThere, Cond.instanceMethod yX0_isThere, Cond.selects RX0 yX0_isThere yX0_isThere, Cond.code yX0_isThere cX0_isThere 2 (some .boolean), Cond.methodLink RX6 93 yX1_seekFair, Cond.instanceMethod yX1_seekFair, Cond.selects RX1 yX1_seekFair yX1_seekFair, Cond.code yX1_seekFair cX1_seekFair 5 (some .int), Cond.methodLink RX1 25 Lib.Math.max.name, Cond.static Lib.Math.max.name, Cond.initialized "java/lang/Math", Cond.code Lib.Math.max.name Lib.Math.max.code 2 (some .int)]
def wsL_law_r23 : List Cond := [Cond.methodLink RX1 31 yX1_at, Cond.instanceMethod yX1_at, Cond.selects RX1 yX1_at yX1_at, Cond.code yX1_at cX1_at 2 (some .int), Cond.methodLink RX6 99 yX1_pick, Cond.instanceMethod yX1_pick, Cond.selects RX1 yX1_pick yX1_pick, Cond.code yX1_pick cX1_pick 4 (some .int), Cond.methodLink RX6 102 yX6_takeOut, Cond.instanceMethod yX6_takeOut, Cond.selects RX6 yX6_takeOut yX6_takeOut, Cond.code yX6_takeOut cX6_takeOut 4 (some .int), Cond.methodLink RX6 105 yX1_use, Cond.instanceMethod yX1_use, Cond.selects RX1 yX1_use yX1_use, Cond.code yX1_use cX1_use 2 none, Cond.fieldLink RX1 19 "ElectionHouse$LotRow" "used" "I", Cond.methodLink RX6 109 yX6_stand, Cond.instanceMethod yX6_stand, Cond.selects RX6 yX6_stand yX6_stand, Cond.code yX6_stand cX6_stand 2 none, Cond.methodLink RX6 81 yX6_choose, Cond.instanceMethod yX6_choose, Cond.selects RX6 yX6_choose yX6_choose]
def wsL_law_r24 : List Cond := [Cond.code yX6_choose cX6_choose 2 (some .int), Cond.methodLink RX6 112 yX6_fillByVotes, Cond.instanceMethod yX6_fillByVotes, Cond.selects RX6 yX6_fillByVotes yX6_fillByVotes, Cond.code yX6_fillByVotes cX6_fillByVotes 9 (some .boolean), Cond.methodLink RX6 115 yX3_votesOf, Cond.instanceMethod yX3_votesOf, Cond.selects RX3 yX3_votesOf yX3_votesOf, Cond.code yX3_votesOf cX3_votesOf 2 (some .int), Cond.methodLink RX6 118 yX3_limitOf, Cond.instanceMethod yX3_limitOf, Cond.selects RX3 yX3_limitOf yX3_limitOf, Cond.code yX3_limitOf cX3_limitOf 2 (some .int), Cond.methodLink RX6 121 yX4_open, Cond.instanceMethod yX4_open, Cond.selects RX4 yX4_open yX4_open, Cond.code yX4_open cX4_open 1 none, Cond.fieldLink RX4 15 "ElectionHouse$Poll" "wasTried" "Z", Cond.fieldLink RX4 19 "ElectionHouse$Poll" "barred" "I", Cond.fieldLink RX4 23 "ElectionHouse$Poll" "votedOn" "I", Cond.fieldLink RX4 26 "ElectionHouse$Poll" "chosen" "I", Cond.methodLink RX4 29 yJ7_fill_53178, Cond.static yJ7_fill_53178, Cond.initialized RJ7]
def wsL_law_r25 : List Cond := [Cond.code yJ7_fill_53178 cJ7_fill_53178 4 none, Cond.methodLink RX6 126 yJ7_fill_53178, Cond.methodLink RX6 132 yX0_houseOf, Cond.instanceMethod yX0_houseOf, Cond.selects RX0 yX0_houseOf yX0_houseOf, Cond.code yX0_houseOf cX0_houseOf 2 (some .int), Cond.methodLink RX6 135 yX6_chosenOf, Cond.instanceMethod yX6_chosenOf, Cond.selects RX6 yX6_chosenOf yX6_chosenOf, Cond.code yX6_chosenOf cX6_chosenOf 2 (some .int), Cond.methodLink RX6 151 yX0_isHouse, Cond.methodLink RX6 138 yX4_bar, Cond.instanceMethod yX4_bar, Cond.selects RX4 yX4_bar yX4_bar, Cond.code yX4_bar cX4_bar 1 none, Cond.methodLink RX6 141 yX6_votesFor, Cond.instanceMethod yX6_votesFor, Cond.selects RX6 yX6_votesFor yX6_votesFor, Cond.code yX6_votesFor cX6_votesFor 7 (some .int), Cond.methodLink RX6 154 yX0_areKin, Cond.instanceMethod yX0_areKin, Cond.selects RX0 yX0_areKin yX0_areKin, Cond.code yX0_areKin cX0_areKin 3 (some .boolean), Cond.methodLink RX6 158 yX0_partyOf]
def wsL_law_r26 : List Cond := [Cond.instanceMethod yX0_partyOf, Cond.selects RX0 yX0_partyOf yX0_partyOf, Cond.code yX0_partyOf cX0_partyOf 2 (some .int), Cond.methodLink RX6 161 yX0_saysYes, Cond.instanceMethod yX0_saysYes, Cond.selects RX0 yX0_saysYes yX0_saysYes, Cond.code yX0_saysYes cX0_saysYes 3 (some .boolean), Cond.methodLink RX6 144 yX4_note, Cond.instanceMethod yX4_note, Cond.selects RX4 yX4_note yX4_note, Cond.code yX4_note cX4_note 4 none, Cond.methodLink RX6 148 yX6_countHouse, Cond.instanceMethod yX6_countHouse, Cond.selects RX6 yX6_countHouse yX6_countHouse, Cond.code yX6_countHouse cX6_countHouse 2 none, Cond.methodLink RX6 84 yX6_elect, Cond.instanceMethod yX6_elect, Cond.selects RX6 yX6_elect yX6_elect, Cond.code yX6_elect cX6_elect 2 (some .int), Cond.methodLink RL 60 yX10_step, Cond.instanceMethod yX10_step, Cond.selects RX10 yX10_step yX10_step, Cond.code yX10_step cX10_step 1 (some .int), Cond.fieldLink RX10 186 "ElectionHouseModel" "chosen" "I"]
def wsL_law_r27 : List Cond := [Cond.methodLink RX10 193 yX10_draws, Cond.instanceMethod yX10_draws, Cond.selects RX10 yX10_draws yX10_draws, Cond.code yX10_draws cX10_draws 9 (some .int), Cond.fieldLink RX10 177 "ElectionHouseModel" "used" "I", Cond.methodLink RX10 196 yX10_chooses, Cond.instanceMethod yX10_chooses, Cond.selects RX10 yX10_chooses yX10_chooses, Cond.code yX10_chooses cX10_chooses 4 (some .boolean), Cond.fieldLink RX10 180 "ElectionHouseModel" "barred" "I", Cond.fieldLink RX10 183 "ElectionHouseModel" "asked" "I", Cond.methodLink RX10 189 yX10_votesFor, Cond.instanceMethod yX10_votesFor, Cond.selects RX10 yX10_votesFor yX10_votesFor, Cond.code yX10_votesFor cX10_votesFor 5 (some .int), Cond.methodLink RL 61 yX9_protest, Cond.instanceMethod yX9_protest, Cond.selects RX9 yX9_protest yX9_protest, Cond.code yX9_protest cX9_protest 2 (some .boolean), Cond.methodLink RX9 127 yX6_undoFrom, Cond.instanceMethod yX6_undoFrom, Cond.selects RX6 yX6_undoFrom yX6_undoFrom, Cond.code yX6_undoFrom cX6_undoFrom 2 (some .boolean), Cond.methodLink RL 65 yX10_protest]
def wsL_law_r28 : List Cond := [Cond.instanceMethod yX10_protest, Cond.selects RX10 yX10_protest yX10_protest, Cond.code yX10_protest cX10_protest 2 (some .boolean), Cond.methodLink RL 66 yX9_body, Cond.instanceMethod yX9_body, Cond.selects RX9 yX9_body yX9_body, Cond.code yX9_body cX9_body 2 (some .int), Cond.methodLink RX9 130 yX6_member, Cond.instanceMethod yX6_member, Cond.selects RX6 yX6_member yX6_member, Cond.code yX6_member cX6_member 2 (some .int), Cond.methodLink RL 69 yX10_body, Cond.instanceMethod yX10_body, Cond.selects RX10 yX10_body yX10_body, Cond.code yX10_body cX10_body 2 (some .int), Cond.methodLink RX10 199 yX10_bodyNow, Cond.instanceMethod yX10_bodyNow, Cond.selects RX10 yX10_bodyNow yX10_bodyNow, Cond.code yX10_bodyNow cX10_bodyNow 1 (some .int), Cond.methodLink RX10 202 yX10_row, Cond.instanceMethod yX10_row, Cond.selects RX10 yX10_row yX10_row, Cond.code yX10_row cX10_row 1 (some .int), Cond.methodLink RL 70 yX9_ballot]
def wsL_law_r29 : List Cond := [Cond.instanceMethod yX9_ballot, Cond.selects RX9 yX9_ballot yX9_ballot, Cond.code yX9_ballot cX9_ballot 2 (some .int), Cond.methodLink RX9 133 yX4_answer, Cond.instanceMethod yX4_answer, Cond.selects RX4 yX4_answer yX4_answer, Cond.code yX4_answer cX4_answer 2 (some .int), Cond.methodLink RX4 35 yX4_votesAt, Cond.instanceMethod yX4_votesAt, Cond.selects RX4 yX4_votesAt yX4_votesAt, Cond.code yX4_votesAt cX4_votesAt 3 (some .int), Cond.methodLink RL 73 yX10_ballot, Cond.instanceMethod yX10_ballot, Cond.selects RX10 yX10_ballot yX10_ballot, Cond.code yX10_ballot cX10_ballot 2 (some .int), Cond.methodLink RL 74 yX9_elected, Cond.instanceMethod yX9_elected, Cond.selects RX9 yX9_elected yX9_elected, Cond.code yX9_elected cX9_elected 1 (some .int), Cond.methodLink RX9 136 yX6_head, Cond.instanceMethod yX6_head, Cond.selects RX6 yX6_head yX6_head, Cond.code yX6_head cX6_head 1 (some .int), Cond.methodLink RL 77 yX10_elected]
def wsL_law_r30 : List Cond := [Cond.instanceMethod yX10_elected, Cond.selects RX10 yX10_elected yX10_elected, Cond.code yX10_elected cX10_elected 1 (some .int), Cond.methodLink RL 78 yX9_chances, Cond.instanceMethod yX9_chances, Cond.selects RX9 yX9_chances yX9_chances, Cond.code yX9_chances cX9_chances 1 (some .int), Cond.methodLink RX9 139 yX2_reckon, Cond.instanceMethod yX2_reckon, Cond.selects RX2 yX2_reckon yX2_reckon, Cond.code yX2_reckon cX2_reckon 5 (some .int), Cond.fieldLink RX2 62 "ElectionHouse$Odds" "isCounted" "Z", Cond.methodLink RX2 68 yX6_plan, Cond.instanceMethod yX6_plan, Cond.selects RX6 yX6_plan yX6_plan, Cond.code yX6_plan cX6_plan 1 (some (.object "ElectionHouse$Plan")), Cond.methodLink RX2 74 yX6_stepsDone, Cond.methodLink RX2 78 yX3_length, Cond.methodLink RX2 83 yJ7_fill_d0a16, Cond.static yJ7_fill_d0a16, Cond.code yJ7_fill_d0a16 cJ7_fill_d0a16 5 none, Cond.methodLink RX2 89 yX2_countAllWays, Cond.instanceMethod yX2_countAllWays, Cond.selects RX2 yX2_countAllWays yX2_countAllWays]
def wsL_law_r31 : List Cond := [Cond.code yX2_countAllWays cX2_countAllWays 9 (some .boolean), Cond.constantLong RX2 114 (1000000000000000), Cond.methodLink RX2 116 Lib.Math.min.name, Cond.static Lib.Math.min.name, Cond.code Lib.Math.min.name Lib.Math.min.code 2 (some .int), Cond.methodLink RX2 99 yX6_bodySize, Cond.methodLink RX2 110 yX2_setsOfStep, Cond.instanceMethod yX2_setsOfStep, Cond.selects RX2 yX2_setsOfStep yX2_setsOfStep, Cond.code yX2_setsOfStep cX2_setsOfStep 5 (some .long), Cond.methodLink RX2 122 yX3_kindOf, Cond.methodLink RX2 106 yX3_sizeOf, Cond.methodLink RX2 125 yX2_setsOf, Cond.instanceMethod yX2_setsOf, Cond.selects RX2 yX2_setsOf yX2_setsOf, Cond.code yX2_setsOf cX2_setsOf 3 (some .long), Cond.methodLink RX2 93 yX2_lookAtCity, Cond.instanceMethod yX2_lookAtCity, Cond.selects RX2 yX2_lookAtCity yX2_lookAtCity, Cond.code yX2_lookAtCity cX2_lookAtCity 2 none, Cond.fieldLink RX2 135 "ElectionHouse$Odds" "candidateCount" "I", Cond.methodLink RX2 129 yX0_saysYes, Cond.methodLink RX2 139 yX0_size, Cond.methodLink RX2 142 yX0_isThere]
def wsL_law_r32 : List Cond := [Cond.methodLink RX2 146 yX0_partyOf, Cond.methodLink RX2 96 yX2_startFromBody, Cond.instanceMethod yX2_startFromBody, Cond.selects RX2 yX2_startFromBody yX2_startFromBody, Cond.code yX2_startFromBody cX2_startFromBody 3 none, Cond.methodLink RX2 149 yJ7_fill_53178, Cond.methodLink RX2 152 yX6_member, Cond.methodLink RX2 155 yX2_countParty, Cond.instanceMethod yX2_countParty, Cond.selects RX2 yX2_countParty yX2_countParty, Cond.code yX2_countParty cX2_countParty 2 none, Cond.methodLink RX2 169 yX0_isParty, Cond.methodLink RX2 159 yX7_clear, Cond.instanceMethod yX7_clear, Cond.selects RX7 yX7_clear yX7_clear, Cond.code yX7_clear cX7_clear 1 none, Cond.fieldLink RX7 22 "ElectionHouse$Tally" "length" "I", Cond.methodLink RX7 26 yJ7_fill_53178, Cond.methodLink RX2 162 yX2_keyOfGets, Cond.instanceMethod yX2_keyOfGets, Cond.selects RX2 yX2_keyOfGets yX2_keyOfGets, Cond.code yX2_keyOfGets cX2_keyOfGets 1 (some .int), Cond.methodLink RX2 165 yX7_add, Cond.instanceMethod yX7_add]
def wsL_law_r33 : List Cond := [Cond.selects RX7 yX7_add yX7_add, Cond.code yX7_add cX7_add 7 (some .boolean), Cond.methodLink RX2 102 yX2_passStep, Cond.instanceMethod yX2_passStep, Cond.selects RX2 yX2_passStep yX2_passStep, Cond.code yX2_passStep cX2_passStep 5 (some .boolean), Cond.methodLink RX2 172 yX7_length, Cond.instanceMethod yX7_length, Cond.selects RX7 yX7_length yX7_length, Cond.code yX7_length cX7_length 1 (some .int), Cond.methodLink RX2 173 yX7_keyAt, Cond.instanceMethod yX7_keyAt, Cond.selects RX7 yX7_keyAt yX7_keyAt, Cond.code yX7_keyAt cX7_keyAt 2 (some .int), Cond.methodLink RX2 176 yX2_spreadKey, Cond.instanceMethod yX2_spreadKey, Cond.selects RX2 yX2_spreadKey yX2_spreadKey, Cond.code yX2_spreadKey cX2_spreadKey 3 none, Cond.methodLink RX2 180 yX7_waysAt, Cond.instanceMethod yX7_waysAt, Cond.selects RX7 yX7_waysAt yX7_waysAt, Cond.code yX7_waysAt cX7_waysAt 2 (some .long), Cond.methodLink RX2 184 yX2_passBody, Cond.instanceMethod yX2_passBody]
def wsL_law_r34 : List Cond := [Cond.selects RX2 yX2_passBody yX2_passBody, Cond.code yX2_passBody cX2_passBody 8 (some .boolean), Cond.methodLink RX2 188 yX2_drawSets, Cond.instanceMethod yX2_drawSets, Cond.selects RX2 yX2_drawSets yX2_drawSets, Cond.code yX2_drawSets cX2_drawSets 10 (some .boolean), Cond.methodLink RX2 204 yX2_drawLastTwo, Cond.instanceMethod yX2_drawLastTwo, Cond.selects RX2 yX2_drawLastTwo yX2_drawLastTwo, Cond.code yX2_drawLastTwo cX2_drawLastTwo 5 (some .boolean), Cond.methodLink RX2 207 Lib.Math.max.name, Cond.methodLink RX2 191 yX2_missStep, Cond.instanceMethod yX2_missStep, Cond.selects RX2 yX2_missStep yX2_missStep, Cond.code yX2_missStep cX2_missStep 4 none, Cond.methodLink RX2 195 yX3_votesOf, Cond.methodLink RX2 198 yX2_findEnough, Cond.instanceMethod yX2_findEnough, Cond.selects RX2 yX2_findEnough yX2_findEnough, Cond.code yX2_findEnough cX2_findEnough 5 none, Cond.methodLink RX2 201 yX2_chooseFirst, Cond.instanceMethod yX2_chooseFirst, Cond.selects RX2 yX2_chooseFirst yX2_chooseFirst, Cond.code yX2_chooseFirst cX2_chooseFirst 5 (some .int)]
def wsL_law_r35 : List Cond := [Cond.methodLink RL 81 yX10_chances, Cond.instanceMethod yX10_chances, Cond.selects RX10 yX10_chances yX10_chances, Cond.code yX10_chances cX10_chances 9 (some .int), Cond.fieldLink RX10 236 "ElectionHouseModel" "rows" "I", Cond.fieldLink RX10 239 "ElectionHouseModel" "none" "J", Cond.constantLong RX10 213 (1000000000000000), Cond.fieldLink RX10 215 "ElectionHouseModel" "nextRows" "I", Cond.fieldLink RX10 233 "ElectionHouseModel" "lastChosen" "I", Cond.fieldLink RX10 253 "ElectionHouseModel" "isTold" "Z", Cond.methodLink RX10 218 yX10_sets, Cond.static yX10_sets, Cond.code yX10_sets cX10_sets 5 (some .long), Cond.constantLong RX10 209 (9000000000000000000), Cond.constantLong RX10 211 (1000000000000001), Cond.methodLink RX10 222 yX10_times, Cond.static yX10_times, Cond.code yX10_times cX10_times 4 (some .long), Cond.methodLink RX10 243 yX10_sizeOf, Cond.static yX10_sizeOf, Cond.code yX10_sizeOf cX10_sizeOf 1 (some .int), Cond.methodLink RX10 205 yX10_partOf, Cond.static yX10_partOf, Cond.code yX10_partOf cX10_partOf 2 (some .int)]
def wsL_law_r36 : List Cond := [Cond.methodLink RX10 246 yX10_drawn, Cond.instanceMethod yX10_drawn, Cond.selects RX10 yX10_drawn yX10_drawn, Cond.code yX10_drawn cX10_drawn 11 (some .boolean), Cond.methodLink RX10 226 yX10_comes, Cond.instanceMethod yX10_comes, Cond.selects RX10 yX10_comes yX10_comes, Cond.code yX10_comes cX10_comes 5 (some .boolean), Cond.methodLink RX10 250 yX10_chosenBy, Cond.instanceMethod yX10_chosenBy, Cond.selects RX10 yX10_chosenBy yX10_chosenBy, Cond.code yX10_chosenBy cX10_chosenBy 6 (some .int), Cond.methodLink RX10 230 yX10_votesBy, Cond.instanceMethod yX10_votesBy, Cond.selects RX10 yX10_votesBy yX10_votesBy, Cond.code yX10_votesBy cX10_votesBy 5 (some .int), Cond.methodLink RL 82 yX9_ways, Cond.instanceMethod yX9_ways, Cond.selects RX9 yX9_ways yX9_ways, Cond.code yX9_ways cX9_ways 2 (some .long), Cond.methodLink RX9 142 yX2_answer, Cond.instanceMethod yX2_answer, Cond.selects RX2 yX2_answer yX2_answer, Cond.code yX2_answer cX2_answer 2 (some .long)]
def wsL_law_r37 : List Cond := [Cond.constantLong RX2 66 (-1), Cond.methodLink RL 86 yX10_ways, Cond.instanceMethod yX10_ways, Cond.selects RX10 yX10_ways yX10_ways, Cond.code yX10_ways cX10_ways 2 (some .long), Cond.constantLong RX10 257 (-1), Cond.methodLink RL 87 yX9_about, Cond.instanceMethod yX9_about, Cond.selects RX9 yX9_about yX9_about, Cond.code yX9_about cX9_about 3 (some .int), Cond.methodLink RX9 145 yX0_has, Cond.methodLink RX9 148 yX0_houseOf, Cond.methodLink RX9 151 yX0_partyOf, Cond.methodLink RX9 154 yX0_isThere, Cond.methodLink RX9 157 yX0_kinOf, Cond.instanceMethod yX0_kinOf, Cond.selects RX0 yX0_kinOf yX0_kinOf, Cond.code yX0_kinOf cX0_kinOf 4 (some .int), Cond.methodLink RX0 53 yX0_areKin, Cond.methodLink RL 90 yX10_about, Cond.instanceMethod yX10_about, Cond.selects RX10 yX10_about yX10_about, Cond.code yX10_about cX10_about 5 (some .int), Cond.methodLink RL 91 yX9_count]
def wsL_law_r38 : List Cond := [Cond.instanceMethod yX9_count, Cond.selects RX9 yX9_count yX9_count, Cond.code yX9_count cX9_count 2 (some .int), Cond.methodLink RX9 160 yX0_size, Cond.methodLink RX9 163 yX0_sizeThere, Cond.instanceMethod yX0_sizeThere, Cond.selects RX0 yX0_sizeThere yX0_sizeThere, Cond.code yX0_sizeThere cX0_sizeThere 3 (some .int), Cond.methodLink RX0 50 yX0_isThere, Cond.methodLink RX9 166 yX0_pairsTold, Cond.instanceMethod yX0_pairsTold, Cond.selects RX0 yX0_pairsTold yX0_pairsTold, Cond.code yX0_pairsTold cX0_pairsTold 1 (some .int), Cond.methodLink RX9 169 yX6_bodySize, Cond.methodLink RX9 172 yX1_waiting, Cond.instanceMethod yX1_waiting, Cond.selects RX1 yX1_waiting yX1_waiting, Cond.code yX1_waiting cX1_waiting 1 (some .int), Cond.methodLink RX9 175 yX1_usedInAll, Cond.instanceMethod yX1_usedInAll, Cond.selects RX1 yX1_usedInAll yX1_usedInAll, Cond.code yX1_usedInAll cX1_usedInAll 1 (some .int), Cond.methodLink RL 94 yX10_count, Cond.instanceMethod yX10_count]
def wsL_law_r39 : List Cond := [Cond.selects RX10 yX10_count yX10_count, Cond.code yX10_count cX10_count 4 (some .int)]
def wsL_law : List Cond := (wsL_law_r1 ++ (wsL_law_r2 ++ (wsL_law_r3 ++ (wsL_law_r4 ++ (wsL_law_r5 ++ (wsL_law_r6 ++ (wsL_law_r7 ++ (wsL_law_r8 ++ (wsL_law_r9 ++ (wsL_law_r10 ++ (wsL_law_r11 ++ (wsL_law_r12 ++ (wsL_law_r13 ++ (wsL_law_r14 ++ (wsL_law_r15 ++ (wsL_law_r16 ++ (wsL_law_r17 ++ (wsL_law_r18 ++ (wsL_law_r19 ++ (wsL_law_r20 ++ (wsL_law_r21 ++ (wsL_law_r22 ++ (wsL_law_r23 ++ (wsL_law_r24 ++ (wsL_law_r25 ++ (wsL_law_r26 ++ (wsL_law_r27 ++ (wsL_law_r28 ++ (wsL_law_r29 ++ (wsL_law_r30 ++ (wsL_law_r31 ++ (wsL_law_r32 ++ (wsL_law_r33 ++ (wsL_law_r34 ++ (wsL_law_r35 ++ (wsL_law_r36 ++ (wsL_law_r37 ++ (wsL_law_r38 ++ wsL_law_r39)))))))))))))))))))))))))))))))))))))) ++ wsX90 ++ wsX100 ++ wsX00 ++ wsX80 ++ wsX50 ++ wsX10 ++ wsX40 ++ wsX60 ++ wsX20 ++ wsX30 ++ wsX70 ++ ([] : List Cond)
theorem inlX0 : ∀ w ∈ wsX00, w ∈ wsL_law := fun _ h => List.mem_append_left _ (List.mem_append_left _ (List.mem_append_left _ (List.mem_append_left _ (List.mem_append_left _ (List.mem_append_left _ (List.mem_append_left _ (List.mem_append_left _ (List.mem_append_left _ (List.mem_append_right _ h)))))))))
theorem inlX1 : ∀ w ∈ wsX10, w ∈ wsL_law := fun _ h => List.mem_append_left _ (List.mem_append_left _ (List.mem_append_left _ (List.mem_append_left _ (List.mem_append_left _ (List.mem_append_left _ (List.mem_append_right _ h))))))
theorem inlX2 : ∀ w ∈ wsX20, w ∈ wsL_law := fun _ h => List.mem_append_left _ (List.mem_append_left _ (List.mem_append_left _ (List.mem_append_right _ h)))
theorem inlX3 : ∀ w ∈ wsX30, w ∈ wsL_law := fun _ h => List.mem_append_left _ (List.mem_append_left _ (List.mem_append_right _ h))
theorem inlX4 : ∀ w ∈ wsX40, w ∈ wsL_law := fun _ h => List.mem_append_left _ (List.mem_append_left _ (List.mem_append_left _ (List.mem_append_left _ (List.mem_append_left _ (List.mem_append_right _ h)))))
theorem inlX5 : ∀ w ∈ wsX50, w ∈ wsL_law := fun _ h => List.mem_append_left _ (List.mem_append_left _ (List.mem_append_left _ (List.mem_append_left _ (List.mem_append_left _ (List.mem_append_left _ (List.mem_append_left _ (List.mem_append_right _ h)))))))
theorem inlX6 : ∀ w ∈ wsX60, w ∈ wsL_law := fun _ h => List.mem_append_left _ (List.mem_append_left _ (List.mem_append_left _ (List.mem_append_left _ (List.mem_append_right _ h))))
theorem inlX7 : ∀ w ∈ wsX70, w ∈ wsL_law := fun _ h => List.mem_append_left _ (List.mem_append_right _ h)
theorem inlX8 : ∀ w ∈ wsX80, w ∈ wsL_law := fun _ h => List.mem_append_left _ (List.mem_append_left _ (List.mem_append_left _ (List.mem_append_left _ (List.mem_append_left _ (List.mem_append_left _ (List.mem_append_left _ (List.mem_append_left _ (List.mem_append_right _ h))))))))
theorem inlX9 : ∀ w ∈ wsX90, w ∈ wsL_law := fun _ h => List.mem_append_left _ (List.mem_append_left _ (List.mem_append_left _ (List.mem_append_left _ (List.mem_append_left _ (List.mem_append_left _ (List.mem_append_left _ (List.mem_append_left _ (List.mem_append_left _ (List.mem_append_left _ (List.mem_append_left _ (List.mem_append_right _ h)))))))))))
theorem inlX10 : ∀ w ∈ wsX100, w ∈ wsL_law := fun _ h => List.mem_append_left _ (List.mem_append_left _ (List.mem_append_left _ (List.mem_append_left _ (List.mem_append_left _ (List.mem_append_left _ (List.mem_append_left _ (List.mem_append_left _ (List.mem_append_left _ (List.mem_append_left _ (List.mem_append_right _ h))))))))))
theorem dX0_init_0 : decode cX0_init 0 = .ok (.aload_n 0, 1) := by decide +kernel
theorem dX0_init_1 : decode cX0_init 1 = .ok (.invokespecial 3, 3) := by decide +kernel
theorem dX0_init_4 : decode cX0_init 4 = .ok (.aload_n 0, 1) := by decide +kernel
theorem dX0_init_5 : decode cX0_init 5 = .ok (.bipush 40, 2) := by decide +kernel
theorem dX0_init_7 : decode cX0_init 7 = .ok (.newarray .int, 2) := by decide +kernel
theorem dX0_init_9 : decode cX0_init 9 = .ok (.putfield 9, 3) := by decide +kernel
theorem dX0_init_12 : decode cX0_init 12 = .ok (.aload_n 0, 1) := by decide +kernel
theorem dX0_init_13 : decode cX0_init 13 = .ok (.bipush 40, 2) := by decide +kernel
theorem dX0_init_15 : decode cX0_init 15 = .ok (.newarray .int, 2) := by decide +kernel
theorem dX0_init_17 : decode cX0_init 17 = .ok (.putfield 15, 3) := by decide +kernel
theorem dX0_init_20 : decode cX0_init 20 = .ok (.aload_n 0, 1) := by decide +kernel
theorem dX0_init_21 : decode cX0_init 21 = .ok (.bipush 40, 2) := by decide +kernel
theorem dX0_init_23 : decode cX0_init 23 = .ok (.newarray .boolean, 2) := by decide +kernel
theorem dX0_init_25 : decode cX0_init 25 = .ok (.putfield 18, 3) := by decide +kernel
theorem dX0_init_28 : decode cX0_init 28 = .ok (.aload_n 0, 1) := by decide +kernel
theorem dX0_init_29 : decode cX0_init 29 = .ok (.bipush 16, 2) := by decide +kernel
theorem dX0_init_31 : decode cX0_init 31 = .ok (.newarray .boolean, 2) := by decide +kernel
theorem dX0_init_33 : decode cX0_init 33 = .ok (.putfield 22, 3) := by decide +kernel
theorem dX0_init_36 : decode cX0_init 36 = .ok (.aload_n 0, 1) := by decide +kernel
theorem dX0_init_37 : decode cX0_init 37 = .ok (.bipush 40, 2) := by decide +kernel
theorem dX0_init_39 : decode cX0_init 39 = .ok (.newarray .long, 2) := by decide +kernel
theorem dX0_init_41 : decode cX0_init 41 = .ok (.putfield 25, 3) := by decide +kernel
theorem dX0_init_44 : decode cX0_init 44 = .ok (.iconst 0, 1) := by decide +kernel
theorem dX0_init_45 : decode cX0_init 45 = .ok (.istore_n 1, 1) := by decide +kernel
theorem dX0_init_46 : decode cX0_init 46 = .ok (.iload_n 1, 1) := by decide +kernel
theorem dX0_init_47 : decode cX0_init 47 = .ok (.iconst 4, 1) := by decide +kernel
theorem dX0_init_48 : decode cX0_init 48 = .ok (.if_icmp .ge 20, 3) := by decide +kernel
theorem dX0_init_51 : decode cX0_init 51 = .ok (.aload_n 0, 1) := by decide +kernel
theorem dX0_init_52 : decode cX0_init 52 = .ok (.getfield 22, 3) := by decide +kernel
theorem dX0_init_55 : decode cX0_init 55 = .ok (.iload_n 1, 1) := by decide +kernel
theorem dX0_init_56 : decode cX0_init 56 = .ok (.iconst 4, 1) := by decide +kernel
theorem dX0_init_57 : decode cX0_init 57 = .ok (.imul, 1) := by decide +kernel
theorem dX0_init_58 : decode cX0_init 58 = .ok (.iload_n 1, 1) := by decide +kernel
theorem dX0_init_59 : decode cX0_init 59 = .ok (.iadd, 1) := by decide +kernel
theorem dX0_init_60 : decode cX0_init 60 = .ok (.iconst 1, 1) := by decide +kernel
theorem dX0_init_61 : decode cX0_init 61 = .ok (.bastore, 1) := by decide +kernel
theorem dX0_init_62 : decode cX0_init 62 = .ok (.iinc 1 1, 3) := by decide +kernel
theorem dX0_init_65 : decode cX0_init 65 = .ok (.goto (-19), 3) := by decide +kernel
theorem dX0_init_68 : decode cX0_init 68 = .ok (.return_, 1) := by decide +kernel
theorem dX0_size_0 : decode cX0_size 0 = .ok (.aload_n 0, 1) := by decide +kernel
theorem dX0_size_1 : decode cX0_size 1 = .ok (.getfield 29, 3) := by decide +kernel
theorem dX0_size_4 : decode cX0_size 4 = .ok (.ireturn, 1) := by decide +kernel
theorem dX0_pairsTold_0 : decode cX0_pairsTold 0 = .ok (.aload_n 0, 1) := by decide +kernel
theorem dX0_pairsTold_1 : decode cX0_pairsTold 1 = .ok (.getfield 33, 3) := by decide +kernel
theorem dX0_pairsTold_4 : decode cX0_pairsTold 4 = .ok (.ireturn, 1) := by decide +kernel
theorem dX0_has_0 : decode cX0_has 0 = .ok (.iload_n 1, 1) := by decide +kernel
theorem dX0_has_1 : decode cX0_has 1 = .ok (.ifCond .lt 21, 3) := by decide +kernel
theorem dX0_has_4 : decode cX0_has 4 = .ok (.iload_n 1, 1) := by decide +kernel
theorem dX0_has_5 : decode cX0_has 5 = .ok (.aload_n 0, 1) := by decide +kernel
theorem dX0_has_6 : decode cX0_has 6 = .ok (.getfield 29, 3) := by decide +kernel
theorem dX0_has_9 : decode cX0_has 9 = .ok (.if_icmp .ge 13, 3) := by decide +kernel
theorem dX0_has_12 : decode cX0_has 12 = .ok (.iload_n 1, 1) := by decide +kernel
theorem dX0_has_13 : decode cX0_has 13 = .ok (.bipush 40, 2) := by decide +kernel
theorem dX0_has_15 : decode cX0_has 15 = .ok (.if_icmp .ge 7, 3) := by decide +kernel
theorem dX0_has_18 : decode cX0_has 18 = .ok (.iconst 1, 1) := by decide +kernel
theorem dX0_has_19 : decode cX0_has 19 = .ok (.goto 4, 3) := by decide +kernel
theorem dX0_has_22 : decode cX0_has 22 = .ok (.iconst 0, 1) := by decide +kernel
theorem dX0_has_23 : decode cX0_has 23 = .ok (.ireturn, 1) := by decide +kernel
theorem dX0_isHouse_0 : decode cX0_isHouse 0 = .ok (.iload_n 0, 1) := by decide +kernel
theorem dX0_isHouse_1 : decode cX0_isHouse 1 = .ok (.ifCond .lt 13, 3) := by decide +kernel
theorem dX0_isHouse_4 : decode cX0_isHouse 4 = .ok (.iload_n 0, 1) := by decide +kernel
theorem dX0_isHouse_5 : decode cX0_isHouse 5 = .ok (.bipush 12, 2) := by decide +kernel
theorem dX0_isHouse_7 : decode cX0_isHouse 7 = .ok (.if_icmp .ge 7, 3) := by decide +kernel
theorem dX0_isHouse_10 : decode cX0_isHouse 10 = .ok (.iconst 1, 1) := by decide +kernel
theorem dX0_isHouse_11 : decode cX0_isHouse 11 = .ok (.goto 4, 3) := by decide +kernel
theorem dX0_isHouse_14 : decode cX0_isHouse 14 = .ok (.iconst 0, 1) := by decide +kernel
theorem dX0_isHouse_15 : decode cX0_isHouse 15 = .ok (.ireturn, 1) := by decide +kernel
theorem dX0_isParty_0 : decode cX0_isParty 0 = .ok (.iload_n 0, 1) := by decide +kernel
theorem dX0_isParty_1 : decode cX0_isParty 1 = .ok (.ifCond .lt 12, 3) := by decide +kernel
theorem dX0_isParty_4 : decode cX0_isParty 4 = .ok (.iload_n 0, 1) := by decide +kernel
theorem dX0_isParty_5 : decode cX0_isParty 5 = .ok (.iconst 4, 1) := by decide +kernel
theorem dX0_isParty_6 : decode cX0_isParty 6 = .ok (.if_icmp .ge 7, 3) := by decide +kernel
theorem dX0_isParty_9 : decode cX0_isParty 9 = .ok (.iconst 1, 1) := by decide +kernel
theorem dX0_isParty_10 : decode cX0_isParty 10 = .ok (.goto 4, 3) := by decide +kernel
theorem dX0_isParty_13 : decode cX0_isParty 13 = .ok (.iconst 0, 1) := by decide +kernel
theorem dX0_isParty_14 : decode cX0_isParty 14 = .ok (.ireturn, 1) := by decide +kernel
set_option maxRecDepth 20000 in
theorem ggX0_settle_X0_isHouse : GoodIn wsX0_settle wsX0_isHouse := goodIn_r _ [8] (by decide +kernel) (by decide +kernel)
set_option maxRecDepth 20000 in
theorem gX0_settle_X0_isHouse : GoodIn wsX0_settle (va_wsS RX0 36 yX0_isHouse wsX0_isHouse) := goodIn_app (goodIn_of _ (by decide +kernel)) ggX0_settle_X0_isHouse
set_option maxRecDepth 20000 in
theorem ggX0_settle_X0_isParty : GoodIn wsX0_settle wsX0_isParty := goodIn_r _ [11] (by decide +kernel) (by decide +kernel)
set_option maxRecDepth 20000 in
theorem gX0_settle_X0_isParty : GoodIn wsX0_settle (va_wsS RX0 40 yX0_isParty wsX0_isParty) := goodIn_app (goodIn_of _ (by decide +kernel)) ggX0_settle_X0_isParty
theorem dX0_settle_0 : decode cX0_settle 0 = .ok (.aload_n 0, 1) := by decide +kernel
theorem dX0_settle_1 : decode cX0_settle 1 = .ok (.getfield 29, 3) := by decide +kernel
theorem dX0_settle_4 : decode cX0_settle 4 = .ok (.bipush 40, 2) := by decide +kernel
theorem dX0_settle_6 : decode cX0_settle 6 = .ok (.if_icmp .ge 17, 3) := by decide +kernel
theorem dX0_settle_9 : decode cX0_settle 9 = .ok (.iload_n 1, 1) := by decide +kernel
theorem dX0_settle_10 : decode cX0_settle 10 = .ok (.invokestatic 36, 3) := by decide +kernel
theorem dX0_settle_13 : decode cX0_settle 13 = .ok (.ifCond .eq 10, 3) := by decide +kernel
theorem dX0_settle_16 : decode cX0_settle 16 = .ok (.iload_n 2, 1) := by decide +kernel
theorem dX0_settle_17 : decode cX0_settle 17 = .ok (.invokestatic 40, 3) := by decide +kernel
theorem dX0_settle_20 : decode cX0_settle 20 = .ok (.ifCond .ne 5, 3) := by decide +kernel
theorem dX0_settle_23 : decode cX0_settle 23 = .ok (.iconst (-1), 1) := by decide +kernel
theorem dX0_settle_24 : decode cX0_settle 24 = .ok (.ireturn, 1) := by decide +kernel
theorem dX0_settle_25 : decode cX0_settle 25 = .ok (.aload_n 0, 1) := by decide +kernel
theorem dX0_settle_26 : decode cX0_settle 26 = .ok (.getfield 29, 3) := by decide +kernel
theorem dX0_settle_29 : decode cX0_settle 29 = .ok (.istore_n 3, 1) := by decide +kernel
theorem dX0_settle_30 : decode cX0_settle 30 = .ok (.aload_n 0, 1) := by decide +kernel
theorem dX0_settle_31 : decode cX0_settle 31 = .ok (.getfield 9, 3) := by decide +kernel
theorem dX0_settle_34 : decode cX0_settle 34 = .ok (.iload_n 3, 1) := by decide +kernel
theorem dX0_settle_35 : decode cX0_settle 35 = .ok (.iload_n 1, 1) := by decide +kernel
theorem dX0_settle_36 : decode cX0_settle 36 = .ok (.iastore, 1) := by decide +kernel
theorem dX0_settle_37 : decode cX0_settle 37 = .ok (.aload_n 0, 1) := by decide +kernel
theorem dX0_settle_38 : decode cX0_settle 38 = .ok (.getfield 15, 3) := by decide +kernel
theorem dX0_settle_41 : decode cX0_settle 41 = .ok (.iload_n 3, 1) := by decide +kernel
theorem dX0_settle_42 : decode cX0_settle 42 = .ok (.iload_n 2, 1) := by decide +kernel
theorem dX0_settle_43 : decode cX0_settle 43 = .ok (.iastore, 1) := by decide +kernel
theorem dX0_settle_44 : decode cX0_settle 44 = .ok (.aload_n 0, 1) := by decide +kernel
theorem dX0_settle_45 : decode cX0_settle 45 = .ok (.getfield 18, 3) := by decide +kernel
theorem dX0_settle_48 : decode cX0_settle 48 = .ok (.iload_n 3, 1) := by decide +kernel
theorem dX0_settle_49 : decode cX0_settle 49 = .ok (.iconst 1, 1) := by decide +kernel
theorem dX0_settle_50 : decode cX0_settle 50 = .ok (.bastore, 1) := by decide +kernel
theorem dX0_settle_51 : decode cX0_settle 51 = .ok (.aload_n 0, 1) := by decide +kernel
theorem dX0_settle_52 : decode cX0_settle 52 = .ok (.dup, 1) := by decide +kernel
theorem dX0_settle_53 : decode cX0_settle 53 = .ok (.getfield 29, 3) := by decide +kernel
theorem dX0_settle_56 : decode cX0_settle 56 = .ok (.iconst 1, 1) := by decide +kernel
theorem dX0_settle_57 : decode cX0_settle 57 = .ok (.iadd, 1) := by decide +kernel
theorem dX0_settle_58 : decode cX0_settle 58 = .ok (.putfield 29, 3) := by decide +kernel
theorem dX0_settle_61 : decode cX0_settle 61 = .ok (.iload_n 3, 1) := by decide +kernel
theorem dX0_settle_62 : decode cX0_settle 62 = .ok (.ireturn, 1) := by decide +kernel
set_option maxRecDepth 20000 in
theorem ggX0_setThere_X0_has : GoodIn wsX0_setThere wsX0_has := goodIn_r _ [6, 7, 8, 9, 10, 11, 12, 13, 14] (by decide +kernel) (by decide +kernel)
set_option maxRecDepth 20000 in
theorem gX0_setThere_X0_has : GoodIn wsX0_setThere (wsV RX0 43 RX0 yX0_has wsX0_has) := goodIn_app (goodIn_of _ (by decide +kernel)) ggX0_setThere_X0_has
theorem dX0_setThere_0 : decode cX0_setThere 0 = .ok (.aload_n 0, 1) := by decide +kernel
theorem dX0_setThere_1 : decode cX0_setThere 1 = .ok (.iload_n 1, 1) := by decide +kernel
theorem dX0_setThere_2 : decode cX0_setThere 2 = .ok (.invokevirtual 43, 3) := by decide +kernel
theorem dX0_setThere_5 : decode cX0_setThere 5 = .ok (.ifCond .eq 13, 3) := by decide +kernel
theorem dX0_setThere_8 : decode cX0_setThere 8 = .ok (.aload_n 0, 1) := by decide +kernel
theorem dX0_setThere_9 : decode cX0_setThere 9 = .ok (.getfield 18, 3) := by decide +kernel
theorem dX0_setThere_12 : decode cX0_setThere 12 = .ok (.iload_n 1, 1) := by decide +kernel
theorem dX0_setThere_13 : decode cX0_setThere 13 = .ok (.baload, 1) := by decide +kernel
theorem dX0_setThere_14 : decode cX0_setThere 14 = .ok (.iload_n 2, 1) := by decide +kernel
theorem dX0_setThere_15 : decode cX0_setThere 15 = .ok (.if_icmp .ne 5, 3) := by decide +kernel
theorem dX0_setThere_18 : decode cX0_setThere 18 = .ok (.iconst 0, 1) := by decide +kernel
theorem dX0_setThere_19 : decode cX0_setThere 19 = .ok (.ireturn, 1) := by decide +kernel
theorem dX0_setThere_20 : decode cX0_setThere 20 = .ok (.aload_n 0, 1) := by decide +kernel
theorem dX0_setThere_21 : decode cX0_setThere 21 = .ok (.getfield 18, 3) := by decide +kernel
theorem dX0_setThere_24 : decode cX0_setThere 24 = .ok (.iload_n 1, 1) := by decide +kernel
theorem dX0_setThere_25 : decode cX0_setThere 25 = .ok (.iload_n 2, 1) := by decide +kernel
theorem dX0_setThere_26 : decode cX0_setThere 26 = .ok (.bastore, 1) := by decide +kernel
theorem dX0_setThere_27 : decode cX0_setThere 27 = .ok (.iconst 1, 1) := by decide +kernel
theorem dX0_setThere_28 : decode cX0_setThere 28 = .ok (.ireturn, 1) := by decide +kernel
set_option maxRecDepth 20000 in
theorem ggX0_tellKin_X0_has : GoodIn wsX0_tellKin wsX0_has := goodIn_r _ [7, 8, 13, 14, 15, 16, 17, 18, 19] (by decide +kernel) (by decide +kernel)
set_option maxRecDepth 20000 in
theorem gX0_tellKin_X0_has : GoodIn wsX0_tellKin (wsV RX0 43 RX0 yX0_has wsX0_has) := goodIn_app (goodIn_of _ (by decide +kernel)) ggX0_tellKin_X0_has
set_option maxRecDepth 20000 in
theorem ggX0_tellKin_X0_wasTold : GoodIn wsX0_tellKin wsX0_wasTold := goodIn_r _ [12, 2, 13, 14, 15, 16, 17, 18, 19] (by decide +kernel) (by decide +kernel)
set_option maxRecDepth 20000 in
theorem gX0_tellKin_X0_wasTold : GoodIn wsX0_tellKin (wsV RX0 46 RX0 yX0_wasTold wsX0_wasTold) := goodIn_app (goodIn_of _ (by decide +kernel)) ggX0_tellKin_X0_wasTold
theorem dX0_tellKin_0 : decode cX0_tellKin 0 = .ok (.aload_n 0, 1) := by decide +kernel
theorem dX0_tellKin_1 : decode cX0_tellKin 1 = .ok (.iload_n 1, 1) := by decide +kernel
theorem dX0_tellKin_2 : decode cX0_tellKin 2 = .ok (.invokevirtual 43, 3) := by decide +kernel
theorem dX0_tellKin_5 : decode cX0_tellKin 5 = .ok (.ifCond .eq 34, 3) := by decide +kernel
theorem dX0_tellKin_8 : decode cX0_tellKin 8 = .ok (.aload_n 0, 1) := by decide +kernel
theorem dX0_tellKin_9 : decode cX0_tellKin 9 = .ok (.iload_n 2, 1) := by decide +kernel
theorem dX0_tellKin_10 : decode cX0_tellKin 10 = .ok (.invokevirtual 43, 3) := by decide +kernel
theorem dX0_tellKin_13 : decode cX0_tellKin 13 = .ok (.ifCond .eq 26, 3) := by decide +kernel
theorem dX0_tellKin_16 : decode cX0_tellKin 16 = .ok (.iload_n 1, 1) := by decide +kernel
theorem dX0_tellKin_17 : decode cX0_tellKin 17 = .ok (.iload_n 2, 1) := by decide +kernel
theorem dX0_tellKin_18 : decode cX0_tellKin 18 = .ok (.if_icmp .eq 21, 3) := by decide +kernel
theorem dX0_tellKin_21 : decode cX0_tellKin 21 = .ok (.aload_n 0, 1) := by decide +kernel
theorem dX0_tellKin_22 : decode cX0_tellKin 22 = .ok (.iload_n 1, 1) := by decide +kernel
theorem dX0_tellKin_23 : decode cX0_tellKin 23 = .ok (.iload_n 2, 1) := by decide +kernel
theorem dX0_tellKin_24 : decode cX0_tellKin 24 = .ok (.invokevirtual 46, 3) := by decide +kernel
theorem dX0_tellKin_27 : decode cX0_tellKin 27 = .ok (.ifCond .ne 12, 3) := by decide +kernel
theorem dX0_tellKin_30 : decode cX0_tellKin 30 = .ok (.aload_n 0, 1) := by decide +kernel
theorem dX0_tellKin_31 : decode cX0_tellKin 31 = .ok (.getfield 33, 3) := by decide +kernel
theorem dX0_tellKin_34 : decode cX0_tellKin 34 = .ok (.bipush 60, 2) := by decide +kernel
theorem dX0_tellKin_36 : decode cX0_tellKin 36 = .ok (.if_icmp .lt 5, 3) := by decide +kernel
theorem dX0_tellKin_39 : decode cX0_tellKin 39 = .ok (.iconst 0, 1) := by decide +kernel
theorem dX0_tellKin_40 : decode cX0_tellKin 40 = .ok (.ireturn, 1) := by decide +kernel
theorem dX0_tellKin_41 : decode cX0_tellKin 41 = .ok (.aload_n 0, 1) := by decide +kernel
theorem dX0_tellKin_42 : decode cX0_tellKin 42 = .ok (.getfield 25, 3) := by decide +kernel
theorem dX0_tellKin_45 : decode cX0_tellKin 45 = .ok (.iload_n 1, 1) := by decide +kernel
theorem dX0_tellKin_46 : decode cX0_tellKin 46 = .ok (.dup2, 1) := by decide +kernel
theorem dX0_tellKin_47 : decode cX0_tellKin 47 = .ok (.laload, 1) := by decide +kernel
theorem dX0_tellKin_48 : decode cX0_tellKin 48 = .ok (.lconst 1, 1) := by decide +kernel
theorem dX0_tellKin_49 : decode cX0_tellKin 49 = .ok (.iload_n 2, 1) := by decide +kernel
theorem dX0_tellKin_50 : decode cX0_tellKin 50 = .ok (.lshl, 1) := by decide +kernel
theorem dX0_tellKin_51 : decode cX0_tellKin 51 = .ok (.lor, 1) := by decide +kernel
theorem dX0_tellKin_52 : decode cX0_tellKin 52 = .ok (.lastore, 1) := by decide +kernel
theorem dX0_tellKin_53 : decode cX0_tellKin 53 = .ok (.aload_n 0, 1) := by decide +kernel
theorem dX0_tellKin_54 : decode cX0_tellKin 54 = .ok (.getfield 25, 3) := by decide +kernel
theorem dX0_tellKin_57 : decode cX0_tellKin 57 = .ok (.iload_n 2, 1) := by decide +kernel
theorem dX0_tellKin_58 : decode cX0_tellKin 58 = .ok (.dup2, 1) := by decide +kernel
theorem dX0_tellKin_59 : decode cX0_tellKin 59 = .ok (.laload, 1) := by decide +kernel
theorem dX0_tellKin_60 : decode cX0_tellKin 60 = .ok (.lconst 1, 1) := by decide +kernel
theorem dX0_tellKin_61 : decode cX0_tellKin 61 = .ok (.iload_n 1, 1) := by decide +kernel
theorem dX0_tellKin_62 : decode cX0_tellKin 62 = .ok (.lshl, 1) := by decide +kernel
theorem dX0_tellKin_63 : decode cX0_tellKin 63 = .ok (.lor, 1) := by decide +kernel
theorem dX0_tellKin_64 : decode cX0_tellKin 64 = .ok (.lastore, 1) := by decide +kernel
theorem dX0_tellKin_65 : decode cX0_tellKin 65 = .ok (.aload_n 0, 1) := by decide +kernel
theorem dX0_tellKin_66 : decode cX0_tellKin 66 = .ok (.dup, 1) := by decide +kernel
theorem dX0_tellKin_67 : decode cX0_tellKin 67 = .ok (.getfield 33, 3) := by decide +kernel
theorem dX0_tellKin_70 : decode cX0_tellKin 70 = .ok (.iconst 1, 1) := by decide +kernel
theorem dX0_tellKin_71 : decode cX0_tellKin 71 = .ok (.iadd, 1) := by decide +kernel
theorem dX0_tellKin_72 : decode cX0_tellKin 72 = .ok (.putfield 33, 3) := by decide +kernel
theorem dX0_tellKin_75 : decode cX0_tellKin 75 = .ok (.iconst 1, 1) := by decide +kernel
theorem dX0_tellKin_76 : decode cX0_tellKin 76 = .ok (.ireturn, 1) := by decide +kernel
set_option maxRecDepth 20000 in
theorem ggX0_setYes_X0_isParty : GoodIn wsX0_setYes wsX0_isParty := goodIn_r _ [5] (by decide +kernel) (by decide +kernel)
set_option maxRecDepth 20000 in
theorem gX0_setYes_X0_isParty : GoodIn wsX0_setYes (va_wsS RX0 40 yX0_isParty wsX0_isParty) := goodIn_app (goodIn_of _ (by decide +kernel)) ggX0_setYes_X0_isParty
theorem dX0_setYes_0 : decode cX0_setYes 0 = .ok (.iload_n 1, 1) := by decide +kernel
theorem dX0_setYes_1 : decode cX0_setYes 1 = .ok (.invokestatic 40, 3) := by decide +kernel
theorem dX0_setYes_4 : decode cX0_setYes 4 = .ok (.ifCond .eq 10, 3) := by decide +kernel
theorem dX0_setYes_7 : decode cX0_setYes 7 = .ok (.iload_n 2, 1) := by decide +kernel
theorem dX0_setYes_8 : decode cX0_setYes 8 = .ok (.invokestatic 40, 3) := by decide +kernel
theorem dX0_setYes_11 : decode cX0_setYes 11 = .ok (.ifCond .ne 5, 3) := by decide +kernel
theorem dX0_setYes_14 : decode cX0_setYes 14 = .ok (.iconst 0, 1) := by decide +kernel
theorem dX0_setYes_15 : decode cX0_setYes 15 = .ok (.ireturn, 1) := by decide +kernel
theorem dX0_setYes_16 : decode cX0_setYes 16 = .ok (.iload_n 1, 1) := by decide +kernel
theorem dX0_setYes_17 : decode cX0_setYes 17 = .ok (.iconst 4, 1) := by decide +kernel
theorem dX0_setYes_18 : decode cX0_setYes 18 = .ok (.imul, 1) := by decide +kernel
theorem dX0_setYes_19 : decode cX0_setYes 19 = .ok (.iload_n 2, 1) := by decide +kernel
theorem dX0_setYes_20 : decode cX0_setYes 20 = .ok (.iadd, 1) := by decide +kernel
theorem dX0_setYes_21 : decode cX0_setYes 21 = .ok (.istore 4, 2) := by decide +kernel
theorem dX0_setYes_23 : decode cX0_setYes 23 = .ok (.aload_n 0, 1) := by decide +kernel
theorem dX0_setYes_24 : decode cX0_setYes 24 = .ok (.getfield 22, 3) := by decide +kernel
theorem dX0_setYes_27 : decode cX0_setYes 27 = .ok (.iload 4, 2) := by decide +kernel
theorem dX0_setYes_29 : decode cX0_setYes 29 = .ok (.baload, 1) := by decide +kernel
theorem dX0_setYes_30 : decode cX0_setYes 30 = .ok (.iload_n 3, 1) := by decide +kernel
theorem dX0_setYes_31 : decode cX0_setYes 31 = .ok (.if_icmp .ne 5, 3) := by decide +kernel
theorem dX0_setYes_34 : decode cX0_setYes 34 = .ok (.iconst 0, 1) := by decide +kernel
theorem dX0_setYes_35 : decode cX0_setYes 35 = .ok (.ireturn, 1) := by decide +kernel
theorem dX0_setYes_36 : decode cX0_setYes 36 = .ok (.aload_n 0, 1) := by decide +kernel
theorem dX0_setYes_37 : decode cX0_setYes 37 = .ok (.getfield 22, 3) := by decide +kernel
theorem dX0_setYes_40 : decode cX0_setYes 40 = .ok (.iload 4, 2) := by decide +kernel
theorem dX0_setYes_42 : decode cX0_setYes 42 = .ok (.iload_n 3, 1) := by decide +kernel
theorem dX0_setYes_43 : decode cX0_setYes 43 = .ok (.bastore, 1) := by decide +kernel
theorem dX0_setYes_44 : decode cX0_setYes 44 = .ok (.iconst 1, 1) := by decide +kernel
theorem dX0_setYes_45 : decode cX0_setYes 45 = .ok (.ireturn, 1) := by decide +kernel
set_option maxRecDepth 20000 in
theorem ggX0_convert_X0_has : GoodIn wsX0_convert wsX0_has := goodIn_r _ [7, 8, 15, 16, 17, 18, 19, 20, 21] (by decide +kernel) (by decide +kernel)
set_option maxRecDepth 20000 in
theorem gX0_convert_X0_has : GoodIn wsX0_convert (wsV RX0 43 RX0 yX0_has wsX0_has) := goodIn_app (goodIn_of _ (by decide +kernel)) ggX0_convert_X0_has
set_option maxRecDepth 20000 in
theorem ggX0_convert_X0_isHouse : GoodIn wsX0_convert wsX0_isHouse := goodIn_r _ [11] (by decide +kernel) (by decide +kernel)
set_option maxRecDepth 20000 in
theorem gX0_convert_X0_isHouse : GoodIn wsX0_convert (va_wsS RX0 36 yX0_isHouse wsX0_isHouse) := goodIn_app (goodIn_of _ (by decide +kernel)) ggX0_convert_X0_isHouse
set_option maxRecDepth 20000 in
theorem ggX0_convert_X0_isParty : GoodIn wsX0_convert wsX0_isParty := goodIn_r _ [14] (by decide +kernel) (by decide +kernel)
set_option maxRecDepth 20000 in
theorem gX0_convert_X0_isParty : GoodIn wsX0_convert (va_wsS RX0 40 yX0_isParty wsX0_isParty) := goodIn_app (goodIn_of _ (by decide +kernel)) ggX0_convert_X0_isParty
theorem dX0_convert_0 : decode cX0_convert 0 = .ok (.aload_n 0, 1) := by decide +kernel
theorem dX0_convert_1 : decode cX0_convert 1 = .ok (.iload_n 1, 1) := by decide +kernel
theorem dX0_convert_2 : decode cX0_convert 2 = .ok (.invokevirtual 43, 3) := by decide +kernel
theorem dX0_convert_5 : decode cX0_convert 5 = .ok (.ifCond .eq 17, 3) := by decide +kernel
theorem dX0_convert_8 : decode cX0_convert 8 = .ok (.iload_n 2, 1) := by decide +kernel
theorem dX0_convert_9 : decode cX0_convert 9 = .ok (.invokestatic 36, 3) := by decide +kernel
theorem dX0_convert_12 : decode cX0_convert 12 = .ok (.ifCond .eq 10, 3) := by decide +kernel
theorem dX0_convert_15 : decode cX0_convert 15 = .ok (.iload_n 3, 1) := by decide +kernel
theorem dX0_convert_16 : decode cX0_convert 16 = .ok (.invokestatic 40, 3) := by decide +kernel
theorem dX0_convert_19 : decode cX0_convert 19 = .ok (.ifCond .ne 5, 3) := by decide +kernel
theorem dX0_convert_22 : decode cX0_convert 22 = .ok (.iconst 0, 1) := by decide +kernel
theorem dX0_convert_23 : decode cX0_convert 23 = .ok (.ireturn, 1) := by decide +kernel
theorem dX0_convert_24 : decode cX0_convert 24 = .ok (.aload_n 0, 1) := by decide +kernel
theorem dX0_convert_25 : decode cX0_convert 25 = .ok (.getfield 9, 3) := by decide +kernel
theorem dX0_convert_28 : decode cX0_convert 28 = .ok (.iload_n 1, 1) := by decide +kernel
theorem dX0_convert_29 : decode cX0_convert 29 = .ok (.iload_n 2, 1) := by decide +kernel
theorem dX0_convert_30 : decode cX0_convert 30 = .ok (.iastore, 1) := by decide +kernel
theorem dX0_convert_31 : decode cX0_convert 31 = .ok (.aload_n 0, 1) := by decide +kernel
theorem dX0_convert_32 : decode cX0_convert 32 = .ok (.getfield 15, 3) := by decide +kernel
theorem dX0_convert_35 : decode cX0_convert 35 = .ok (.iload_n 1, 1) := by decide +kernel
theorem dX0_convert_36 : decode cX0_convert 36 = .ok (.iload_n 3, 1) := by decide +kernel
theorem dX0_convert_37 : decode cX0_convert 37 = .ok (.iastore, 1) := by decide +kernel
theorem dX0_convert_38 : decode cX0_convert 38 = .ok (.iconst 1, 1) := by decide +kernel
theorem dX0_convert_39 : decode cX0_convert 39 = .ok (.ireturn, 1) := by decide +kernel
set_option maxRecDepth 20000 in
theorem ggX0_houseOf_X0_has : GoodIn wsX0_houseOf wsX0_has := goodIn_r _ [6, 7, 8, 9, 10, 11, 12, 13, 14] (by decide +kernel) (by decide +kernel)
set_option maxRecDepth 20000 in
theorem gX0_houseOf_X0_has : GoodIn wsX0_houseOf (wsV RX0 43 RX0 yX0_has wsX0_has) := goodIn_app (goodIn_of _ (by decide +kernel)) ggX0_houseOf_X0_has
theorem dX0_houseOf_0 : decode cX0_houseOf 0 = .ok (.aload_n 0, 1) := by decide +kernel
theorem dX0_houseOf_1 : decode cX0_houseOf 1 = .ok (.iload_n 1, 1) := by decide +kernel
theorem dX0_houseOf_2 : decode cX0_houseOf 2 = .ok (.invokevirtual 43, 3) := by decide +kernel
theorem dX0_houseOf_5 : decode cX0_houseOf 5 = .ok (.ifCond .eq 12, 3) := by decide +kernel
theorem dX0_houseOf_8 : decode cX0_houseOf 8 = .ok (.aload_n 0, 1) := by decide +kernel
theorem dX0_houseOf_9 : decode cX0_houseOf 9 = .ok (.getfield 9, 3) := by decide +kernel
theorem dX0_houseOf_12 : decode cX0_houseOf 12 = .ok (.iload_n 1, 1) := by decide +kernel
theorem dX0_houseOf_13 : decode cX0_houseOf 13 = .ok (.iaload, 1) := by decide +kernel
theorem dX0_houseOf_14 : decode cX0_houseOf 14 = .ok (.goto 4, 3) := by decide +kernel
theorem dX0_houseOf_17 : decode cX0_houseOf 17 = .ok (.iconst 0, 1) := by decide +kernel
theorem dX0_houseOf_18 : decode cX0_houseOf 18 = .ok (.ireturn, 1) := by decide +kernel
set_option maxRecDepth 20000 in
theorem ggX0_partyOf_X0_has : GoodIn wsX0_partyOf wsX0_has := goodIn_r _ [6, 7, 8, 9, 10, 11, 12, 13, 14] (by decide +kernel) (by decide +kernel)
set_option maxRecDepth 20000 in
theorem gX0_partyOf_X0_has : GoodIn wsX0_partyOf (wsV RX0 43 RX0 yX0_has wsX0_has) := goodIn_app (goodIn_of _ (by decide +kernel)) ggX0_partyOf_X0_has
theorem dX0_partyOf_0 : decode cX0_partyOf 0 = .ok (.aload_n 0, 1) := by decide +kernel
theorem dX0_partyOf_1 : decode cX0_partyOf 1 = .ok (.iload_n 1, 1) := by decide +kernel
theorem dX0_partyOf_2 : decode cX0_partyOf 2 = .ok (.invokevirtual 43, 3) := by decide +kernel
theorem dX0_partyOf_5 : decode cX0_partyOf 5 = .ok (.ifCond .eq 12, 3) := by decide +kernel
theorem dX0_partyOf_8 : decode cX0_partyOf 8 = .ok (.aload_n 0, 1) := by decide +kernel
theorem dX0_partyOf_9 : decode cX0_partyOf 9 = .ok (.getfield 15, 3) := by decide +kernel
theorem dX0_partyOf_12 : decode cX0_partyOf 12 = .ok (.iload_n 1, 1) := by decide +kernel
theorem dX0_partyOf_13 : decode cX0_partyOf 13 = .ok (.iaload, 1) := by decide +kernel
theorem dX0_partyOf_14 : decode cX0_partyOf 14 = .ok (.goto 4, 3) := by decide +kernel
theorem dX0_partyOf_17 : decode cX0_partyOf 17 = .ok (.iconst 0, 1) := by decide +kernel
theorem dX0_partyOf_18 : decode cX0_partyOf 18 = .ok (.ireturn, 1) := by decide +kernel
set_option maxRecDepth 20000 in
theorem ggX0_isThere_X0_has : GoodIn wsX0_isThere wsX0_has := goodIn_r _ [6, 7, 8, 9, 10, 11, 12, 13, 14] (by decide +kernel) (by decide +kernel)
set_option maxRecDepth 20000 in
theorem gX0_isThere_X0_has : GoodIn wsX0_isThere (wsV RX0 43 RX0 yX0_has wsX0_has) := goodIn_app (goodIn_of _ (by decide +kernel)) ggX0_isThere_X0_has
theorem dX0_isThere_0 : decode cX0_isThere 0 = .ok (.aload_n 0, 1) := by decide +kernel
theorem dX0_isThere_1 : decode cX0_isThere 1 = .ok (.iload_n 1, 1) := by decide +kernel
theorem dX0_isThere_2 : decode cX0_isThere 2 = .ok (.invokevirtual 43, 3) := by decide +kernel
theorem dX0_isThere_5 : decode cX0_isThere 5 = .ok (.ifCond .eq 16, 3) := by decide +kernel
theorem dX0_isThere_8 : decode cX0_isThere 8 = .ok (.aload_n 0, 1) := by decide +kernel
theorem dX0_isThere_9 : decode cX0_isThere 9 = .ok (.getfield 18, 3) := by decide +kernel
theorem dX0_isThere_12 : decode cX0_isThere 12 = .ok (.iload_n 1, 1) := by decide +kernel
theorem dX0_isThere_13 : decode cX0_isThere 13 = .ok (.baload, 1) := by decide +kernel
theorem dX0_isThere_14 : decode cX0_isThere 14 = .ok (.ifCond .eq 7, 3) := by decide +kernel
theorem dX0_isThere_17 : decode cX0_isThere 17 = .ok (.iconst 1, 1) := by decide +kernel
theorem dX0_isThere_18 : decode cX0_isThere 18 = .ok (.goto 4, 3) := by decide +kernel
theorem dX0_isThere_21 : decode cX0_isThere 21 = .ok (.iconst 0, 1) := by decide +kernel
theorem dX0_isThere_22 : decode cX0_isThere 22 = .ok (.ireturn, 1) := by decide +kernel
set_option maxRecDepth 20000 in
theorem ggX0_sizeThere_X0_isThere : GoodIn wsX0_sizeThere wsX0_isThere := goodIn_r _ [6, 7, 8, 9, 10, 5, 11, 1, 12, 13, 14, 15, 16, 17, 18] (by decide +kernel) (by decide +kernel)
set_option maxRecDepth 20000 in
theorem gX0_sizeThere_X0_isThere : GoodIn wsX0_sizeThere (wsV RX0 50 RX0 yX0_isThere wsX0_isThere) := goodIn_app (goodIn_of _ (by decide +kernel)) ggX0_sizeThere_X0_isThere
theorem dX0_sizeThere_0 : decode cX0_sizeThere 0 = .ok (.iconst 0, 1) := by decide +kernel
theorem dX0_sizeThere_1 : decode cX0_sizeThere 1 = .ok (.istore_n 1, 1) := by decide +kernel
theorem dX0_sizeThere_2 : decode cX0_sizeThere 2 = .ok (.iconst 0, 1) := by decide +kernel
theorem dX0_sizeThere_3 : decode cX0_sizeThere 3 = .ok (.istore_n 2, 1) := by decide +kernel
theorem dX0_sizeThere_4 : decode cX0_sizeThere 4 = .ok (.iload_n 2, 1) := by decide +kernel
theorem dX0_sizeThere_5 : decode cX0_sizeThere 5 = .ok (.aload_n 0, 1) := by decide +kernel
theorem dX0_sizeThere_6 : decode cX0_sizeThere 6 = .ok (.getfield 29, 3) := by decide +kernel
theorem dX0_sizeThere_9 : decode cX0_sizeThere 9 = .ok (.if_icmp .ge 20, 3) := by decide +kernel
theorem dX0_sizeThere_12 : decode cX0_sizeThere 12 = .ok (.aload_n 0, 1) := by decide +kernel
theorem dX0_sizeThere_13 : decode cX0_sizeThere 13 = .ok (.iload_n 2, 1) := by decide +kernel
theorem dX0_sizeThere_14 : decode cX0_sizeThere 14 = .ok (.invokevirtual 50, 3) := by decide +kernel
theorem dX0_sizeThere_17 : decode cX0_sizeThere 17 = .ok (.ifCond .eq 6, 3) := by decide +kernel
theorem dX0_sizeThere_20 : decode cX0_sizeThere 20 = .ok (.iinc 1 1, 3) := by decide +kernel
theorem dX0_sizeThere_23 : decode cX0_sizeThere 23 = .ok (.iinc 2 1, 3) := by decide +kernel
theorem dX0_sizeThere_26 : decode cX0_sizeThere 26 = .ok (.goto (-22), 3) := by decide +kernel
theorem dX0_sizeThere_29 : decode cX0_sizeThere 29 = .ok (.iload_n 1, 1) := by decide +kernel
theorem dX0_sizeThere_30 : decode cX0_sizeThere 30 = .ok (.ireturn, 1) := by decide +kernel
set_option maxRecDepth 20000 in
theorem ggX0_saysYes_X0_isParty : GoodIn wsX0_saysYes wsX0_isParty := goodIn_r _ [5] (by decide +kernel) (by decide +kernel)
set_option maxRecDepth 20000 in
theorem gX0_saysYes_X0_isParty : GoodIn wsX0_saysYes (va_wsS RX0 40 yX0_isParty wsX0_isParty) := goodIn_app (goodIn_of _ (by decide +kernel)) ggX0_saysYes_X0_isParty
theorem dX0_saysYes_0 : decode cX0_saysYes 0 = .ok (.iload_n 1, 1) := by decide +kernel
theorem dX0_saysYes_1 : decode cX0_saysYes 1 = .ok (.invokestatic 40, 3) := by decide +kernel
theorem dX0_saysYes_4 : decode cX0_saysYes 4 = .ok (.ifCond .eq 27, 3) := by decide +kernel
theorem dX0_saysYes_7 : decode cX0_saysYes 7 = .ok (.iload_n 2, 1) := by decide +kernel
theorem dX0_saysYes_8 : decode cX0_saysYes 8 = .ok (.invokestatic 40, 3) := by decide +kernel
theorem dX0_saysYes_11 : decode cX0_saysYes 11 = .ok (.ifCond .eq 20, 3) := by decide +kernel
theorem dX0_saysYes_14 : decode cX0_saysYes 14 = .ok (.aload_n 0, 1) := by decide +kernel
theorem dX0_saysYes_15 : decode cX0_saysYes 15 = .ok (.getfield 22, 3) := by decide +kernel
theorem dX0_saysYes_18 : decode cX0_saysYes 18 = .ok (.iload_n 1, 1) := by decide +kernel
theorem dX0_saysYes_19 : decode cX0_saysYes 19 = .ok (.iconst 4, 1) := by decide +kernel
theorem dX0_saysYes_20 : decode cX0_saysYes 20 = .ok (.imul, 1) := by decide +kernel
theorem dX0_saysYes_21 : decode cX0_saysYes 21 = .ok (.iload_n 2, 1) := by decide +kernel
theorem dX0_saysYes_22 : decode cX0_saysYes 22 = .ok (.iadd, 1) := by decide +kernel
theorem dX0_saysYes_23 : decode cX0_saysYes 23 = .ok (.baload, 1) := by decide +kernel
theorem dX0_saysYes_24 : decode cX0_saysYes 24 = .ok (.ifCond .eq 7, 3) := by decide +kernel
theorem dX0_saysYes_27 : decode cX0_saysYes 27 = .ok (.iconst 1, 1) := by decide +kernel
theorem dX0_saysYes_28 : decode cX0_saysYes 28 = .ok (.goto 4, 3) := by decide +kernel
theorem dX0_saysYes_31 : decode cX0_saysYes 31 = .ok (.iconst 0, 1) := by decide +kernel
theorem dX0_saysYes_32 : decode cX0_saysYes 32 = .ok (.ireturn, 1) := by decide +kernel
theorem dX0_wasTold_0 : decode cX0_wasTold 0 = .ok (.aload_n 0, 1) := by decide +kernel
theorem dX0_wasTold_1 : decode cX0_wasTold 1 = .ok (.getfield 25, 3) := by decide +kernel
theorem dX0_wasTold_4 : decode cX0_wasTold 4 = .ok (.iload_n 1, 1) := by decide +kernel
theorem dX0_wasTold_5 : decode cX0_wasTold 5 = .ok (.laload, 1) := by decide +kernel
theorem dX0_wasTold_6 : decode cX0_wasTold 6 = .ok (.iload_n 2, 1) := by decide +kernel
theorem dX0_wasTold_7 : decode cX0_wasTold 7 = .ok (.lushr, 1) := by decide +kernel
theorem dX0_wasTold_8 : decode cX0_wasTold 8 = .ok (.lconst 1, 1) := by decide +kernel
theorem dX0_wasTold_9 : decode cX0_wasTold 9 = .ok (.land, 1) := by decide +kernel
theorem dX0_wasTold_10 : decode cX0_wasTold 10 = .ok (.lconst 0, 1) := by decide +kernel
theorem dX0_wasTold_11 : decode cX0_wasTold 11 = .ok (.lcmp, 1) := by decide +kernel
theorem dX0_wasTold_12 : decode cX0_wasTold 12 = .ok (.ifCond .eq 7, 3) := by decide +kernel
theorem dX0_wasTold_15 : decode cX0_wasTold 15 = .ok (.iconst 1, 1) := by decide +kernel
theorem dX0_wasTold_16 : decode cX0_wasTold 16 = .ok (.goto 4, 3) := by decide +kernel
theorem dX0_wasTold_19 : decode cX0_wasTold 19 = .ok (.iconst 0, 1) := by decide +kernel
theorem dX0_wasTold_20 : decode cX0_wasTold 20 = .ok (.ireturn, 1) := by decide +kernel
set_option maxRecDepth 20000 in
theorem ggX0_areKin_X0_has : GoodIn wsX0_areKin wsX0_has := goodIn_r _ [6, 7, 13, 14, 15, 16, 17, 18, 19] (by decide +kernel) (by decide +kernel)
set_option maxRecDepth 20000 in
theorem gX0_areKin_X0_has : GoodIn wsX0_areKin (wsV RX0 43 RX0 yX0_has wsX0_has) := goodIn_app (goodIn_of _ (by decide +kernel)) ggX0_areKin_X0_has
set_option maxRecDepth 20000 in
theorem ggX0_areKin_X0_wasTold : GoodIn wsX0_areKin wsX0_wasTold := goodIn_r _ [11, 12, 13, 14, 15, 16, 17, 18, 19] (by decide +kernel) (by decide +kernel)
set_option maxRecDepth 20000 in
theorem gX0_areKin_X0_wasTold : GoodIn wsX0_areKin (wsV RX0 46 RX0 yX0_wasTold wsX0_wasTold) := goodIn_app (goodIn_of _ (by decide +kernel)) ggX0_areKin_X0_wasTold
theorem dX0_areKin_0 : decode cX0_areKin 0 = .ok (.aload_n 0, 1) := by decide +kernel
theorem dX0_areKin_1 : decode cX0_areKin 1 = .ok (.iload_n 1, 1) := by decide +kernel
theorem dX0_areKin_2 : decode cX0_areKin 2 = .ok (.invokevirtual 43, 3) := by decide +kernel
theorem dX0_areKin_5 : decode cX0_areKin 5 = .ok (.ifCond .eq 44, 3) := by decide +kernel
theorem dX0_areKin_8 : decode cX0_areKin 8 = .ok (.aload_n 0, 1) := by decide +kernel
theorem dX0_areKin_9 : decode cX0_areKin 9 = .ok (.iload_n 2, 1) := by decide +kernel
theorem dX0_areKin_10 : decode cX0_areKin 10 = .ok (.invokevirtual 43, 3) := by decide +kernel
theorem dX0_areKin_13 : decode cX0_areKin 13 = .ok (.ifCond .eq 36, 3) := by decide +kernel
theorem dX0_areKin_16 : decode cX0_areKin 16 = .ok (.iload_n 1, 1) := by decide +kernel
theorem dX0_areKin_17 : decode cX0_areKin 17 = .ok (.iload_n 2, 1) := by decide +kernel
theorem dX0_areKin_18 : decode cX0_areKin 18 = .ok (.if_icmp .eq 31, 3) := by decide +kernel
theorem dX0_areKin_21 : decode cX0_areKin 21 = .ok (.aload_n 0, 1) := by decide +kernel
theorem dX0_areKin_22 : decode cX0_areKin 22 = .ok (.getfield 9, 3) := by decide +kernel
theorem dX0_areKin_25 : decode cX0_areKin 25 = .ok (.iload_n 1, 1) := by decide +kernel
theorem dX0_areKin_26 : decode cX0_areKin 26 = .ok (.iaload, 1) := by decide +kernel
theorem dX0_areKin_27 : decode cX0_areKin 27 = .ok (.aload_n 0, 1) := by decide +kernel
theorem dX0_areKin_28 : decode cX0_areKin 28 = .ok (.getfield 9, 3) := by decide +kernel
theorem dX0_areKin_31 : decode cX0_areKin 31 = .ok (.iload_n 2, 1) := by decide +kernel
theorem dX0_areKin_32 : decode cX0_areKin 32 = .ok (.iaload, 1) := by decide +kernel
theorem dX0_areKin_33 : decode cX0_areKin 33 = .ok (.if_icmp .eq 12, 3) := by decide +kernel
theorem dX0_areKin_36 : decode cX0_areKin 36 = .ok (.aload_n 0, 1) := by decide +kernel
theorem dX0_areKin_37 : decode cX0_areKin 37 = .ok (.iload_n 1, 1) := by decide +kernel
theorem dX0_areKin_38 : decode cX0_areKin 38 = .ok (.iload_n 2, 1) := by decide +kernel
theorem dX0_areKin_39 : decode cX0_areKin 39 = .ok (.invokevirtual 46, 3) := by decide +kernel
theorem dX0_areKin_42 : decode cX0_areKin 42 = .ok (.ifCond .eq 7, 3) := by decide +kernel
theorem dX0_areKin_45 : decode cX0_areKin 45 = .ok (.iconst 1, 1) := by decide +kernel
theorem dX0_areKin_46 : decode cX0_areKin 46 = .ok (.goto 4, 3) := by decide +kernel
theorem dX0_areKin_49 : decode cX0_areKin 49 = .ok (.iconst 0, 1) := by decide +kernel
theorem dX0_areKin_50 : decode cX0_areKin 50 = .ok (.ireturn, 1) := by decide +kernel
set_option maxRecDepth 20000 in
theorem ggX0_kinOf_X0_areKin : GoodIn wsX0_kinOf wsX0_areKin := goodIn_r _ [6, 7, 8, 9, 10, 5, 11, 1, 12, 13, 14, 15, 16, 17, 18, 19, 20, 21, 22, 23] (by decide +kernel) (by decide +kernel)
set_option maxRecDepth 20000 in
theorem gX0_kinOf_X0_areKin : GoodIn wsX0_kinOf (wsV RX0 53 RX0 yX0_areKin wsX0_areKin) := goodIn_app (goodIn_of _ (by decide +kernel)) ggX0_kinOf_X0_areKin
theorem dX0_kinOf_0 : decode cX0_kinOf 0 = .ok (.iconst 0, 1) := by decide +kernel
theorem dX0_kinOf_1 : decode cX0_kinOf 1 = .ok (.istore_n 2, 1) := by decide +kernel
theorem dX0_kinOf_2 : decode cX0_kinOf 2 = .ok (.iconst 0, 1) := by decide +kernel
theorem dX0_kinOf_3 : decode cX0_kinOf 3 = .ok (.istore_n 3, 1) := by decide +kernel
theorem dX0_kinOf_4 : decode cX0_kinOf 4 = .ok (.iload_n 3, 1) := by decide +kernel
theorem dX0_kinOf_5 : decode cX0_kinOf 5 = .ok (.aload_n 0, 1) := by decide +kernel
theorem dX0_kinOf_6 : decode cX0_kinOf 6 = .ok (.getfield 29, 3) := by decide +kernel
theorem dX0_kinOf_9 : decode cX0_kinOf 9 = .ok (.if_icmp .ge 21, 3) := by decide +kernel
theorem dX0_kinOf_12 : decode cX0_kinOf 12 = .ok (.aload_n 0, 1) := by decide +kernel
theorem dX0_kinOf_13 : decode cX0_kinOf 13 = .ok (.iload_n 1, 1) := by decide +kernel
theorem dX0_kinOf_14 : decode cX0_kinOf 14 = .ok (.iload_n 3, 1) := by decide +kernel
theorem dX0_kinOf_15 : decode cX0_kinOf 15 = .ok (.invokevirtual 53, 3) := by decide +kernel
theorem dX0_kinOf_18 : decode cX0_kinOf 18 = .ok (.ifCond .eq 6, 3) := by decide +kernel
theorem dX0_kinOf_21 : decode cX0_kinOf 21 = .ok (.iinc 2 1, 3) := by decide +kernel
theorem dX0_kinOf_24 : decode cX0_kinOf 24 = .ok (.iinc 3 1, 3) := by decide +kernel
theorem dX0_kinOf_27 : decode cX0_kinOf 27 = .ok (.goto (-23), 3) := by decide +kernel
theorem dX0_kinOf_30 : decode cX0_kinOf 30 = .ok (.iload_n 2, 1) := by decide +kernel
theorem dX0_kinOf_31 : decode cX0_kinOf 31 = .ok (.ireturn, 1) := by decide +kernel
theorem dX1_init_0 : decode cX1_init 0 = .ok (.aload_n 0, 1) := by decide +kernel
theorem dX1_init_1 : decode cX1_init 1 = .ok (.invokespecial 3, 3) := by decide +kernel
theorem dX1_init_4 : decode cX1_init 4 = .ok (.aload_n 0, 1) := by decide +kernel
theorem dX1_init_5 : decode cX1_init 5 = .ok (.sipush 500, 3) := by decide +kernel
theorem dX1_init_8 : decode cX1_init 8 = .ok (.newarray .int, 2) := by decide +kernel
theorem dX1_init_10 : decode cX1_init 10 = .ok (.putfield 9, 3) := by decide +kernel
theorem dX1_init_13 : decode cX1_init 13 = .ok (.return_, 1) := by decide +kernel
theorem dX1_waiting_0 : decode cX1_waiting 0 = .ok (.aload_n 0, 1) := by decide +kernel
theorem dX1_waiting_1 : decode cX1_waiting 1 = .ok (.getfield 15, 3) := by decide +kernel
theorem dX1_waiting_4 : decode cX1_waiting 4 = .ok (.ireturn, 1) := by decide +kernel
theorem dX1_usedInAll_0 : decode cX1_usedInAll 0 = .ok (.aload_n 0, 1) := by decide +kernel
theorem dX1_usedInAll_1 : decode cX1_usedInAll 1 = .ok (.getfield 19, 3) := by decide +kernel
theorem dX1_usedInAll_4 : decode cX1_usedInAll 4 = .ok (.ireturn, 1) := by decide +kernel
theorem dX1_tell_0 : decode cX1_tell 0 = .ok (.aload_n 0, 1) := by decide +kernel
theorem dX1_tell_1 : decode cX1_tell 1 = .ok (.getfield 15, 3) := by decide +kernel
theorem dX1_tell_4 : decode cX1_tell 4 = .ok (.sipush 500, 3) := by decide +kernel
theorem dX1_tell_7 : decode cX1_tell 7 = .ok (.if_icmp .ge 14, 3) := by decide +kernel
theorem dX1_tell_10 : decode cX1_tell 10 = .ok (.iload_n 1, 1) := by decide +kernel
theorem dX1_tell_11 : decode cX1_tell 11 = .ok (.ifCond .lt 10, 3) := by decide +kernel
theorem dX1_tell_14 : decode cX1_tell 14 = .ok (.iload_n 1, 1) := by decide +kernel
theorem dX1_tell_15 : decode cX1_tell 15 = .ok (.sipush 10000, 3) := by decide +kernel
theorem dX1_tell_18 : decode cX1_tell 18 = .ok (.if_icmp .lt 5, 3) := by decide +kernel
theorem dX1_tell_21 : decode cX1_tell 21 = .ok (.iconst (-1), 1) := by decide +kernel
theorem dX1_tell_22 : decode cX1_tell 22 = .ok (.ireturn, 1) := by decide +kernel
theorem dX1_tell_23 : decode cX1_tell 23 = .ok (.aload_n 0, 1) := by decide +kernel
theorem dX1_tell_24 : decode cX1_tell 24 = .ok (.getfield 9, 3) := by decide +kernel
theorem dX1_tell_27 : decode cX1_tell 27 = .ok (.aload_n 0, 1) := by decide +kernel
theorem dX1_tell_28 : decode cX1_tell 28 = .ok (.getfield 22, 3) := by decide +kernel
theorem dX1_tell_31 : decode cX1_tell 31 = .ok (.aload_n 0, 1) := by decide +kernel
theorem dX1_tell_32 : decode cX1_tell 32 = .ok (.getfield 15, 3) := by decide +kernel
theorem dX1_tell_35 : decode cX1_tell 35 = .ok (.iadd, 1) := by decide +kernel
theorem dX1_tell_36 : decode cX1_tell 36 = .ok (.sipush 500, 3) := by decide +kernel
theorem dX1_tell_39 : decode cX1_tell 39 = .ok (.irem, 1) := by decide +kernel
theorem dX1_tell_40 : decode cX1_tell 40 = .ok (.iload_n 1, 1) := by decide +kernel
theorem dX1_tell_41 : decode cX1_tell 41 = .ok (.iastore, 1) := by decide +kernel
theorem dX1_tell_42 : decode cX1_tell 42 = .ok (.aload_n 0, 1) := by decide +kernel
theorem dX1_tell_43 : decode cX1_tell 43 = .ok (.dup, 1) := by decide +kernel
theorem dX1_tell_44 : decode cX1_tell 44 = .ok (.getfield 15, 3) := by decide +kernel
theorem dX1_tell_47 : decode cX1_tell 47 = .ok (.iconst 1, 1) := by decide +kernel
theorem dX1_tell_48 : decode cX1_tell 48 = .ok (.iadd, 1) := by decide +kernel
theorem dX1_tell_49 : decode cX1_tell 49 = .ok (.putfield 15, 3) := by decide +kernel
theorem dX1_tell_52 : decode cX1_tell 52 = .ok (.aload_n 0, 1) := by decide +kernel
theorem dX1_tell_53 : decode cX1_tell 53 = .ok (.getfield 15, 3) := by decide +kernel
theorem dX1_tell_56 : decode cX1_tell 56 = .ok (.ireturn, 1) := by decide +kernel
theorem dX1_at_0 : decode cX1_at 0 = .ok (.iload_n 1, 1) := by decide +kernel
theorem dX1_at_1 : decode cX1_at 1 = .ok (.ifCond .lt 29, 3) := by decide +kernel
theorem dX1_at_4 : decode cX1_at 4 = .ok (.iload_n 1, 1) := by decide +kernel
theorem dX1_at_5 : decode cX1_at 5 = .ok (.aload_n 0, 1) := by decide +kernel
theorem dX1_at_6 : decode cX1_at 6 = .ok (.getfield 15, 3) := by decide +kernel
theorem dX1_at_9 : decode cX1_at 9 = .ok (.if_icmp .ge 21, 3) := by decide +kernel
theorem dX1_at_12 : decode cX1_at 12 = .ok (.aload_n 0, 1) := by decide +kernel
theorem dX1_at_13 : decode cX1_at 13 = .ok (.getfield 9, 3) := by decide +kernel
theorem dX1_at_16 : decode cX1_at 16 = .ok (.aload_n 0, 1) := by decide +kernel
theorem dX1_at_17 : decode cX1_at 17 = .ok (.getfield 22, 3) := by decide +kernel
theorem dX1_at_20 : decode cX1_at 20 = .ok (.iload_n 1, 1) := by decide +kernel
theorem dX1_at_21 : decode cX1_at 21 = .ok (.iadd, 1) := by decide +kernel
theorem dX1_at_22 : decode cX1_at 22 = .ok (.sipush 500, 3) := by decide +kernel
theorem dX1_at_25 : decode cX1_at 25 = .ok (.irem, 1) := by decide +kernel
theorem dX1_at_26 : decode cX1_at 26 = .ok (.iaload, 1) := by decide +kernel
theorem dX1_at_27 : decode cX1_at 27 = .ok (.goto 4, 3) := by decide +kernel
theorem dX1_at_30 : decode cX1_at 30 = .ok (.iconst (-1), 1) := by decide +kernel
theorem dX1_at_31 : decode cX1_at 31 = .ok (.ireturn, 1) := by decide +kernel
set_option maxRecDepth 20000 in
theorem ggX1_seekFair_X1_at : GoodIn wsX1_seekFair wsX1_at := goodIn_r _ [10, 5, 11, 12, 13, 14, 15, 16] (by decide +kernel) (by decide +kernel)
set_option maxRecDepth 20000 in
theorem gX1_seekFair_X1_at : GoodIn wsX1_seekFair (wsV RX1 31 RX1 yX1_at wsX1_at) := goodIn_app (goodIn_of _ (by decide +kernel)) ggX1_seekFair_X1_at
theorem dX1_seekFair_0 : decode cX1_seekFair 0 = .ok (.iload_n 2, 1) := by decide +kernel
theorem dX1_seekFair_1 : decode cX1_seekFair 1 = .ok (.iconst 1, 1) := by decide +kernel
theorem dX1_seekFair_2 : decode cX1_seekFair 2 = .ok (.if_icmp .ge 5, 3) := by decide +kernel
theorem dX1_seekFair_5 : decode cX1_seekFair 5 = .ok (.iconst (-1), 1) := by decide +kernel
theorem dX1_seekFair_6 : decode cX1_seekFair 6 = .ok (.ireturn, 1) := by decide +kernel
theorem dX1_seekFair_7 : decode cX1_seekFair 7 = .ok (.iload_n 2, 1) := by decide +kernel
theorem dX1_seekFair_8 : decode cX1_seekFair 8 = .ok (.sipush 10000, 3) := by decide +kernel
theorem dX1_seekFair_11 : decode cX1_seekFair 11 = .ok (.iload_n 2, 1) := by decide +kernel
theorem dX1_seekFair_12 : decode cX1_seekFair 12 = .ok (.idiv, 1) := by decide +kernel
theorem dX1_seekFair_13 : decode cX1_seekFair 13 = .ok (.imul, 1) := by decide +kernel
theorem dX1_seekFair_14 : decode cX1_seekFair 14 = .ok (.istore_n 3, 1) := by decide +kernel
theorem dX1_seekFair_15 : decode cX1_seekFair 15 = .ok (.iload_n 1, 1) := by decide +kernel
theorem dX1_seekFair_16 : decode cX1_seekFair 16 = .ok (.iconst 0, 1) := by decide +kernel
theorem dX1_seekFair_17 : decode cX1_seekFair 17 = .ok (.invokestatic 25, 3) := by decide +kernel
theorem dX1_seekFair_20 : decode cX1_seekFair 20 = .ok (.istore 4, 2) := by decide +kernel
theorem dX1_seekFair_22 : decode cX1_seekFair 22 = .ok (.iload 4, 2) := by decide +kernel
theorem dX1_seekFair_24 : decode cX1_seekFair 24 = .ok (.aload_n 0, 1) := by decide +kernel
theorem dX1_seekFair_25 : decode cX1_seekFair 25 = .ok (.getfield 15, 3) := by decide +kernel
theorem dX1_seekFair_28 : decode cX1_seekFair 28 = .ok (.if_icmp .ge 22, 3) := by decide +kernel
theorem dX1_seekFair_31 : decode cX1_seekFair 31 = .ok (.aload_n 0, 1) := by decide +kernel
theorem dX1_seekFair_32 : decode cX1_seekFair 32 = .ok (.iload 4, 2) := by decide +kernel
theorem dX1_seekFair_34 : decode cX1_seekFair 34 = .ok (.invokevirtual 31, 3) := by decide +kernel
theorem dX1_seekFair_37 : decode cX1_seekFair 37 = .ok (.iload_n 3, 1) := by decide +kernel
theorem dX1_seekFair_38 : decode cX1_seekFair 38 = .ok (.if_icmp .ge 6, 3) := by decide +kernel
theorem dX1_seekFair_41 : decode cX1_seekFair 41 = .ok (.iload 4, 2) := by decide +kernel
theorem dX1_seekFair_43 : decode cX1_seekFair 43 = .ok (.ireturn, 1) := by decide +kernel
theorem dX1_seekFair_44 : decode cX1_seekFair 44 = .ok (.iinc 4 1, 3) := by decide +kernel
theorem dX1_seekFair_47 : decode cX1_seekFair 47 = .ok (.goto (-25), 3) := by decide +kernel
theorem dX1_seekFair_50 : decode cX1_seekFair 50 = .ok (.iconst (-1), 1) := by decide +kernel
theorem dX1_seekFair_51 : decode cX1_seekFair 51 = .ok (.ireturn, 1) := by decide +kernel
set_option maxRecDepth 20000 in
theorem ggX1_pick_X1_at : GoodIn wsX1_pick wsX1_at := goodIn_r _ [5, 6, 7, 8, 9, 10, 11, 12] (by decide +kernel) (by decide +kernel)
set_option maxRecDepth 20000 in
theorem gX1_pick_X1_at : GoodIn wsX1_pick (wsV RX1 31 RX1 yX1_at wsX1_at) := goodIn_app (goodIn_of _ (by decide +kernel)) ggX1_pick_X1_at
theorem dX1_pick_0 : decode cX1_pick 0 = .ok (.aload_n 0, 1) := by decide +kernel
theorem dX1_pick_1 : decode cX1_pick 1 = .ok (.iload_n 1, 1) := by decide +kernel
theorem dX1_pick_2 : decode cX1_pick 2 = .ok (.invokevirtual 31, 3) := by decide +kernel
theorem dX1_pick_5 : decode cX1_pick 5 = .ok (.istore_n 3, 1) := by decide +kernel
theorem dX1_pick_6 : decode cX1_pick 6 = .ok (.iload_n 2, 1) := by decide +kernel
theorem dX1_pick_7 : decode cX1_pick 7 = .ok (.iconst 1, 1) := by decide +kernel
theorem dX1_pick_8 : decode cX1_pick 8 = .ok (.if_icmp .lt 7, 3) := by decide +kernel
theorem dX1_pick_11 : decode cX1_pick 11 = .ok (.iload_n 3, 1) := by decide +kernel
theorem dX1_pick_12 : decode cX1_pick 12 = .ok (.ifCond .ge 7, 3) := by decide +kernel
theorem dX1_pick_15 : decode cX1_pick 15 = .ok (.iconst 0, 1) := by decide +kernel
theorem dX1_pick_16 : decode cX1_pick 16 = .ok (.goto 6, 3) := by decide +kernel
theorem dX1_pick_19 : decode cX1_pick 19 = .ok (.iload_n 3, 1) := by decide +kernel
theorem dX1_pick_20 : decode cX1_pick 20 = .ok (.iload_n 2, 1) := by decide +kernel
theorem dX1_pick_21 : decode cX1_pick 21 = .ok (.irem, 1) := by decide +kernel
theorem dX1_pick_22 : decode cX1_pick 22 = .ok (.ireturn, 1) := by decide +kernel
theorem dX1_use_0 : decode cX1_use 0 = .ok (.iload_n 1, 1) := by decide +kernel
theorem dX1_use_1 : decode cX1_use 1 = .ok (.ifCond .le 45, 3) := by decide +kernel
theorem dX1_use_4 : decode cX1_use 4 = .ok (.iload_n 1, 1) := by decide +kernel
theorem dX1_use_5 : decode cX1_use 5 = .ok (.aload_n 0, 1) := by decide +kernel
theorem dX1_use_6 : decode cX1_use 6 = .ok (.getfield 15, 3) := by decide +kernel
theorem dX1_use_9 : decode cX1_use 9 = .ok (.if_icmp .gt 37, 3) := by decide +kernel
theorem dX1_use_12 : decode cX1_use 12 = .ok (.aload_n 0, 1) := by decide +kernel
theorem dX1_use_13 : decode cX1_use 13 = .ok (.aload_n 0, 1) := by decide +kernel
theorem dX1_use_14 : decode cX1_use 14 = .ok (.getfield 22, 3) := by decide +kernel
theorem dX1_use_17 : decode cX1_use 17 = .ok (.iload_n 1, 1) := by decide +kernel
theorem dX1_use_18 : decode cX1_use 18 = .ok (.iadd, 1) := by decide +kernel
theorem dX1_use_19 : decode cX1_use 19 = .ok (.sipush 500, 3) := by decide +kernel
theorem dX1_use_22 : decode cX1_use 22 = .ok (.irem, 1) := by decide +kernel
theorem dX1_use_23 : decode cX1_use 23 = .ok (.putfield 22, 3) := by decide +kernel
theorem dX1_use_26 : decode cX1_use 26 = .ok (.aload_n 0, 1) := by decide +kernel
theorem dX1_use_27 : decode cX1_use 27 = .ok (.dup, 1) := by decide +kernel
theorem dX1_use_28 : decode cX1_use 28 = .ok (.getfield 15, 3) := by decide +kernel
theorem dX1_use_31 : decode cX1_use 31 = .ok (.iload_n 1, 1) := by decide +kernel
theorem dX1_use_32 : decode cX1_use 32 = .ok (.isub, 1) := by decide +kernel
theorem dX1_use_33 : decode cX1_use 33 = .ok (.putfield 15, 3) := by decide +kernel
theorem dX1_use_36 : decode cX1_use 36 = .ok (.aload_n 0, 1) := by decide +kernel
theorem dX1_use_37 : decode cX1_use 37 = .ok (.dup, 1) := by decide +kernel
theorem dX1_use_38 : decode cX1_use 38 = .ok (.getfield 19, 3) := by decide +kernel
theorem dX1_use_41 : decode cX1_use 41 = .ok (.iload_n 1, 1) := by decide +kernel
theorem dX1_use_42 : decode cX1_use 42 = .ok (.iadd, 1) := by decide +kernel
theorem dX1_use_43 : decode cX1_use 43 = .ok (.putfield 19, 3) := by decide +kernel
theorem dX1_use_46 : decode cX1_use 46 = .ok (.return_, 1) := by decide +kernel
set_option maxRecDepth 20000 in
theorem ggX2_init_X7_init : GoodIn wsX2_init wsX7_init := goodIn_r _ [25, 26, 2, 3, 7, 27, 4, 28, 29, 46, 47, 48, 49] (by decide +kernel) (by decide +kernel)
set_option maxRecDepth 20000 in
theorem gX2_init_X7_init_n46 : GoodIn wsX2_init (wsX7_init) := ggX2_init_X7_init
theorem dX2_init_0 : decode cX2_init 0 = .ok (.aload_n 0, 1) := by decide +kernel
theorem dX2_init_1 : decode cX2_init 1 = .ok (.invokespecial 3, 3) := by decide +kernel
theorem dX2_init_4 : decode cX2_init 4 = .ok (.aload_n 0, 1) := by decide +kernel
theorem dX2_init_5 : decode cX2_init 5 = .ok (.sipush 1681, 3) := by decide +kernel
theorem dX2_init_8 : decode cX2_init 8 = .ok (.newarray .long, 2) := by decide +kernel
theorem dX2_init_10 : decode cX2_init 10 = .ok (.putfield 9, 3) := by decide +kernel
theorem dX2_init_13 : decode cX2_init 13 = .ok (.aload_n 0, 1) := by decide +kernel
theorem dX2_init_14 : decode cX2_init 14 = .ok (.bipush 12, 2) := by decide +kernel
theorem dX2_init_16 : decode cX2_init 16 = .ok (.newarray .long, 2) := by decide +kernel
theorem dX2_init_18 : decode cX2_init 18 = .ok (.putfield 15, 3) := by decide +kernel
theorem dX2_init_21 : decode cX2_init 21 = .ok (.aload_n 0, 1) := by decide +kernel
theorem dX2_init_22 : decode cX2_init 22 = .ok (.iconst 4, 1) := by decide +kernel
theorem dX2_init_23 : decode cX2_init 23 = .ok (.newarray .int, 2) := by decide +kernel
theorem dX2_init_25 : decode cX2_init 25 = .ok (.putfield 18, 3) := by decide +kernel
theorem dX2_init_28 : decode cX2_init 28 = .ok (.aload_n 0, 1) := by decide +kernel
theorem dX2_init_29 : decode cX2_init 29 = .ok (.iconst 4, 1) := by decide +kernel
theorem dX2_init_30 : decode cX2_init 30 = .ok (.newarray .int, 2) := by decide +kernel
theorem dX2_init_32 : decode cX2_init 32 = .ok (.putfield 22, 3) := by decide +kernel
theorem dX2_init_35 : decode cX2_init 35 = .ok (.aload_n 0, 1) := by decide +kernel
theorem dX2_init_36 : decode cX2_init 36 = .ok (.iconst 4, 1) := by decide +kernel
theorem dX2_init_37 : decode cX2_init 37 = .ok (.newarray .boolean, 2) := by decide +kernel
theorem dX2_init_39 : decode cX2_init 39 = .ok (.putfield 25, 3) := by decide +kernel
theorem dX2_init_42 : decode cX2_init 42 = .ok (.aload_n 0, 1) := by decide +kernel
theorem dX2_init_43 : decode cX2_init 43 = .ok (.bipush 40, 2) := by decide +kernel
theorem dX2_init_45 : decode cX2_init 45 = .ok (.newarray .int, 2) := by decide +kernel
theorem dX2_init_47 : decode cX2_init 47 = .ok (.putfield 29, 3) := by decide +kernel
theorem dX2_init_50 : decode cX2_init 50 = .ok (.aload_n 0, 1) := by decide +kernel
theorem dX2_init_51 : decode cX2_init 51 = .ok (.bipush 40, 2) := by decide +kernel
theorem dX2_init_53 : decode cX2_init 53 = .ok (.newarray .int, 2) := by decide +kernel
theorem dX2_init_55 : decode cX2_init 55 = .ok (.putfield 32, 3) := by decide +kernel
theorem dX2_init_58 : decode cX2_init 58 = .ok (.aload_n 0, 1) := by decide +kernel
theorem dX2_init_59 : decode cX2_init 59 = .ok (.bipush 16, 2) := by decide +kernel
theorem dX2_init_61 : decode cX2_init 61 = .ok (.newarray .int, 2) := by decide +kernel
theorem dX2_init_63 : decode cX2_init 63 = .ok (.putfield 35, 3) := by decide +kernel
theorem dX2_init_66 : decode cX2_init 66 = .ok (.aload_n 0, 1) := by decide +kernel
theorem dX2_init_67 : decode cX2_init 67 = .ok (.bipush 42, 2) := by decide +kernel
theorem dX2_init_69 : decode cX2_init 69 = .ok (.newarray .long, 2) := by decide +kernel
theorem dX2_init_71 : decode cX2_init 71 = .ok (.putfield 38, 3) := by decide +kernel
theorem dX2_init_74 : decode cX2_init 74 = .ok (.aload_n 0, 1) := by decide +kernel
theorem dX2_init_75 : decode cX2_init 75 = .ok (.bipush 42, 2) := by decide +kernel
theorem dX2_init_77 : decode cX2_init 77 = .ok (.newarray .long, 2) := by decide +kernel
theorem dX2_init_79 : decode cX2_init 79 = .ok (.putfield 41, 3) := by decide +kernel
theorem dX2_init_82 : decode cX2_init 82 = .ok (.aload_n 0, 1) := by decide +kernel
theorem dX2_init_83 : decode cX2_init 83 = .ok (.new 44, 3) := by decide +kernel
theorem dX2_init_86 : decode cX2_init 86 = .ok (.dup, 1) := by decide +kernel
theorem dX2_init_87 : decode cX2_init 87 = .ok (.invokespecial 46, 3) := by decide +kernel
theorem dX2_init_90 : decode cX2_init 90 = .ok (.putfield 47, 3) := by decide +kernel
theorem dX2_init_93 : decode cX2_init 93 = .ok (.aload_n 0, 1) := by decide +kernel
theorem dX2_init_94 : decode cX2_init 94 = .ok (.new 44, 3) := by decide +kernel
theorem dX2_init_97 : decode cX2_init 97 = .ok (.dup, 1) := by decide +kernel
theorem dX2_init_98 : decode cX2_init 98 = .ok (.invokespecial 46, 3) := by decide +kernel
theorem dX2_init_101 : decode cX2_init 101 = .ok (.putfield 51, 3) := by decide +kernel
theorem dX2_init_104 : decode cX2_init 104 = .ok (.aload_n 0, 1) := by decide +kernel
theorem dX2_init_105 : decode cX2_init 105 = .ok (.aload_n 1, 1) := by decide +kernel
theorem dX2_init_106 : decode cX2_init 106 = .ok (.putfield 54, 3) := by decide +kernel
theorem dX2_init_109 : decode cX2_init 109 = .ok (.aload_n 0, 1) := by decide +kernel
theorem dX2_init_110 : decode cX2_init 110 = .ok (.aload_n 2, 1) := by decide +kernel
theorem dX2_init_111 : decode cX2_init 111 = .ok (.putfield 58, 3) := by decide +kernel
theorem dX2_init_114 : decode cX2_init 114 = .ok (.iconst 0, 1) := by decide +kernel
theorem dX2_init_115 : decode cX2_init 115 = .ok (.istore_n 3, 1) := by decide +kernel
theorem dX2_init_116 : decode cX2_init 116 = .ok (.iload_n 3, 1) := by decide +kernel
theorem dX2_init_117 : decode cX2_init 117 = .ok (.bipush 41, 2) := by decide +kernel
theorem dX2_init_119 : decode cX2_init 119 = .ok (.if_icmp .ge 77, 3) := by decide +kernel
theorem dX2_init_122 : decode cX2_init 122 = .ok (.aload_n 0, 1) := by decide +kernel
theorem dX2_init_123 : decode cX2_init 123 = .ok (.getfield 9, 3) := by decide +kernel
theorem dX2_init_126 : decode cX2_init 126 = .ok (.iload_n 3, 1) := by decide +kernel
theorem dX2_init_127 : decode cX2_init 127 = .ok (.bipush 41, 2) := by decide +kernel
theorem dX2_init_129 : decode cX2_init 129 = .ok (.imul, 1) := by decide +kernel
theorem dX2_init_130 : decode cX2_init 130 = .ok (.lconst 1, 1) := by decide +kernel
theorem dX2_init_131 : decode cX2_init 131 = .ok (.lastore, 1) := by decide +kernel
theorem dX2_init_132 : decode cX2_init 132 = .ok (.iconst 1, 1) := by decide +kernel
