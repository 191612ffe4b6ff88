-- numbers of the methods
abbrev k_Ac_init : Nat := 0
abbrev k_Ac_begin : Nat := 1
abbrev k_Ac_perform : Nat := 2
abbrev k_Ac_doBody : Nat := 3
abbrev k_Cl_init : Nat := 4
abbrev k_Cl_clear : Nat := 5
abbrev k_Cl_copyFrom : Nat := 6
abbrev k_Cl_write : Nat := 7
abbrev k_Cl_append : Nat := 8
abbrev k_Cl_pacesOf : Nat := 9
abbrev k_Cl_pacesOfTest : Nat := 10
abbrev k_Ga_init : Nat := 11
abbrev k_Ga_append : Nat := 12
abbrev k_Ga_copyFrom : Nat := 13
abbrev k_Hi_init : Nat := 14
abbrev k_Hi_copyFrom : Nat := 15
abbrev k_Ma_init : Nat := 16
abbrev k_Ma_search : Nat := 17
abbrev k_Ma_reach : Nat := 18
abbrev k_Ma_passBy : Nat := 19
abbrev k_No_init : Nat := 20
abbrev k_No_append : Nat := 21
abbrev k_No_clear : Nat := 22
abbrev k_No_copyFrom : Nat := 23
abbrev k_Pa_init : Nat := 24
abbrev k_Pa_prepare : Nat := 25
abbrev k_Pa_sumClauses : Nat := 26
abbrev k_Pa_addAt : Nat := 27
abbrev k_Pa_tightness : Nat := 28
abbrev k_Pa_ruts : Nat := 29
abbrev k_Pa_fillGate : Nat := 30
abbrev k_Pa_cell : Nat := 31
abbrev k_Pa_held : Nat := 32
abbrev k_Pa_timeAt : Nat := 33
abbrev k_Pa_overAt : Nat := 34
abbrev k_Pa_paceAfter : Nat := 35
abbrev k_Pa_changePlaces : Nat := 36
abbrev k_Pa_leastFrom : Nat := 37
abbrev k_Pa_solve : Nat := 38
abbrev k_Pa_solveAt : Nat := 39
abbrev k_Pa_goByBest : Nat := 40
abbrev k_Pa_go : Nat := 41
abbrev k_Pa_hasRowOf : Nat := 42
abbrev k_Re_init : Nat := 43
abbrev k_Re_readTape : Nat := 44
abbrev k_Re_readClause : Nat := 45
abbrev k_Re_readSetting : Nat := 46
abbrev k_Re_readAny : Nat := 47
abbrev k_Re_readPart : Nat := 48
abbrev k_Re_readNot : Nat := 49
abbrev k_Re_readTest : Nat := 50
abbrev k_Re_digitsBy : Nat := 51
abbrev k_Re_readNumber : Nat := 52
abbrev k_Re_sees : Nat := 53
abbrev k_Re_take : Nat := 54
abbrev k_Re_takeWord : Nat := 55
abbrev k_Re_takeOneOf : Nat := 56
abbrev k_Sa_init : Nat := 57
abbrev k_Sa_search : Nat := 58
abbrev k_Sa_reach : Nat := 59
abbrev k_Sa_passBy : Nat := 60
abbrev k_Ta_init : Nat := 61
abbrev k_Ta_copyFrom : Nat := 62
abbrev k_Fg_init : Nat := 63
abbrev k_Fg_feed : Nat := 64
abbrev k_Fg_slope : Nat := 65
abbrev k_Fg_gate : Nat := 66
abbrev k_Fg_of : Nat := 67
abbrev k_Fg_turn : Nat := 68
abbrev k_Fg_plan : Nat := 69
abbrev k_Fg_row : Nat := 70
abbrev k_Fg_skier : Nat := 71
abbrev k_Fg_skill : Nat := 72
abbrev k_Fg_told : Nat := 73
abbrev k_Fg_run : Nat := 74
abbrev k_Fg_would : Nat := 75
abbrev k_Fg_quickest : Nat := 76
abbrev k_Fg_clean : Nat := 77
abbrev k_Fg_up : Nat := 78
abbrev k_Fg_surest : Nat := 79
abbrev k_Fg_sure : Nat := 80
abbrev k_Fg_carry : Nat := 81
abbrev k_Fg_start : Nat := 82
abbrev k_Fg_rutted : Nat := 83
abbrev k_Fg_wax : Nat := 84
abbrev k_Fg_loses : Nat := 85
abbrev k_Fg_wins : Nat := 86
abbrev k_Fg_risk : Nat := 87
abbrev k_Fg_set : Nat := 88
abbrev k_Fg_rank : Nat := 89
abbrev k_Fg_mean : Nat := 90
abbrev k_Fg_slowest : Nat := 91
abbrev k_Fg_see : Nat := 92
abbrev k_Fg_fits : Nat := 93
abbrev k_Fg_who : Nat := 94
abbrev k_Fg_book : Nat := 95
abbrev k_Fg_looked : Nat := 96
abbrev k_Fg_act : Nat := 97
abbrev k_Fg_trace : Nat := 98
abbrev k_Fg_as : Nat := 99
abbrev k_Fg_image : Nat := 100
abbrev k_Fg_undo : Nat := 101
abbrev k_Fg_count : Nat := 102
abbrev k_Fg_noGate : Nat := 103
abbrev k_Fg_noSkier : Nat := 104
abbrev k_Fg_noPart : Nat := 105
abbrev k_Fg_outside : Nat := 106
abbrev k_Fg_exchange : Nat := 107
abbrev k_Fg_note : Nat := 108
abbrev k_Fg_goByTheLine : Nat := 109
abbrev k_Fg_leastTime : Nat := 110
abbrev k_Fg_goBothByBest : Nat := 111
abbrev k_Fg_bestLine : Nat := 112
abbrev k_Fg_surestWithin : Nat := 113
abbrev k_Fg_aheadIfChanged : Nat := 114
abbrev k_Fg_linesThatFit : Nat := 115
abbrev k_Fg_placeOf : Nat := 116
abbrev k_Fg_lowest : Nat := 117
abbrev k_Mo_init : Nat := 118
abbrev k_Mo_in : Nat := 119
abbrev k_Mo_within : Nat := 120
abbrev k_Mo_isGate : Nat := 121
abbrev k_Mo_isSkier : Nat := 122
abbrev k_Mo_feed : Nat := 123
abbrev k_Mo_here : Nat := 124
abbrev k_Mo_must : Nat := 125
abbrev k_Mo_spells : Nat := 126
abbrev k_Mo_figures : Nat := 127
abbrev k_Mo_among : Nat := 128
abbrev k_Mo_emits : Nat := 129
abbrev k_Mo_factor : Nat := 130
abbrev k_Mo_every : Nat := 131
abbrev k_Mo_some : Nat := 132
abbrev k_Mo_much : Nat := 133
abbrev k_Mo_tellsHere : Nat := 134
abbrev k_Mo_clauseHere : Nat := 135
abbrev k_Mo_slope : Nat := 136
abbrev k_Mo_tellsOf : Nat := 137
abbrev k_Mo_looks : Nat := 138
abbrev k_Mo_gate : Nat := 139
abbrev k_Mo_of : Nat := 140
abbrev k_Mo_turn : Nat := 141
abbrev k_Mo_plan : Nat := 142
abbrev k_Mo_row : Nat := 143
abbrev k_Mo_skier : Nat := 144
abbrev k_Mo_skill : Nat := 145
abbrev k_Mo_told : Nat := 146
abbrev k_Mo_runsAre : Nat := 147
abbrev k_Mo_begins : Nat := 148
abbrev k_Mo_asTheyStand : Nat := 149
abbrev k_Mo_beginsNow : Nat := 150
abbrev k_Mo_looksForPass : Nat := 151
abbrev k_Mo_passes : Nat := 152
abbrev k_Mo_runsBy : Nat := 153
abbrev k_Mo_runsByPlan : Nat := 154
abbrev k_Mo_run : Nat := 155
abbrev k_Mo_would : Nat := 156
abbrev k_Mo_power : Nat := 157
abbrev k_Mo_lowest : Nat := 158
abbrev k_Mo_up : Nat := 159
abbrev k_Mo_takesLine : Nat := 160
abbrev k_Mo_ends : Nat := 161
abbrev k_Mo_isAsSeen : Nat := 162
abbrev k_Mo_linesFrom : Nat := 163
abbrev k_Mo_looksForLines : Nat := 164
abbrev k_Mo_leastBy : Nat := 165
abbrev k_Mo_leastNow : Nat := 166
abbrev k_Mo_quickest : Nat := 167
abbrev k_Mo_clean : Nat := 168
abbrev k_Mo_looksForSurest : Nat := 169
abbrev k_Mo_surestPart : Nat := 170
abbrev k_Mo_surest : Nat := 171
abbrev k_Mo_sure : Nat := 172
abbrev k_Mo_carry : Nat := 173
abbrev k_Mo_start : Nat := 174
abbrev k_Mo_keepsBest : Nat := 175
abbrev k_Mo_isOther : Nat := 176
abbrev k_Mo_rutted : Nat := 177
abbrev k_Mo_wax : Nat := 178
abbrev k_Mo_runsQuickest : Nat := 179
abbrev k_Mo_loses : Nat := 180
abbrev k_Mo_wins : Nat := 181
abbrev k_Mo_risk : Nat := 182
abbrev k_Mo_leads : Nat := 183
abbrev k_Mo_set : Nat := 184
abbrev k_Mo_looksForTimes : Nat := 185
abbrev k_Mo_rank : Nat := 186
abbrev k_Mo_mean : Nat := 187
abbrev k_Mo_slowest : Nat := 188
abbrev k_Mo_see : Nat := 189
abbrev k_Mo_fitting : Nat := 190
abbrev k_Mo_fits : Nat := 191
abbrev k_Mo_who : Nat := 192
abbrev k_Mo_book : Nat := 193
abbrev k_Mo_looked : Nat := 194
abbrev k_Mo_ranBody : Nat := 195
abbrev k_Mo_isUnder : Nat := 196
abbrev k_Mo_plainTurns : Nat := 197
abbrev k_Mo_turnsActs : Nat := 198
abbrev k_Mo_plainSlides : Nat := 199
abbrev k_Mo_slidesActs : Nat := 200
abbrev k_Mo_plainTells : Nat := 201
abbrev k_Mo_tellsActs : Nat := 202
abbrev k_Mo_act : Nat := 203
abbrev k_Mo_trace : Nat := 204
abbrev k_Mo_as : Nat := 205
abbrev k_Mo_image : Nat := 206
abbrev k_Mo_undo : Nat := 207
abbrev k_Mo_count : Nat := 208
abbrev k_J0_length : Nat := 209
abbrev k_J0_charAt : Nat := 210
abbrev k_J0_indexOf1 : Nat := 211
abbrev k_J0_indexOf2 : Nat := 212
abbrev k_J0_coder : Nat := 213
abbrev k_J0_isLatin1 : Nat := 214
abbrev k_J0_checkIndex : Nat := 215
abbrev k_J1_charAt : Nat := 216
abbrev k_J1_canEncode : Nat := 217
abbrev k_J1_indexOf : Nat := 218
abbrev k_J1_indexOfChar : Nat := 219
abbrev k_J3_checkIndex : Nat := 220
abbrev k_La_law : Nat := 221
def zCod_0 : List ByteArray := [cX0_init, cX0_begin, cX0_perform, cX0_doBody, cX1_init, cX1_clear, cX1_copyFrom, cX1_write, cX1_append, cX1_pacesOf, cX1_pacesOfTest, cX2_init, cX2_append, cX2_copyFrom, cX3_init, cX3_copyFrom, cX4_init, cX4_search, cX4_reach, cX4_passBy, cX5_init, cX5_append, cX5_clear, cX5_copyFrom, cX6_init, cX6_prepare, cX6_sumClauses, cX6_addAt, cX6_tightness, cX6_ruts, cX6_fillGate, cX6_cell, cX6_held, cX6_timeAt, cX6_overAt, cX6_paceAfter, cX6_changePlaces, cX6_leastFrom, cX6_solve, cX6_solveAt]
def zCod_1 : List ByteArray := [cX6_goByBest, cX6_go, cX6_hasRowOf, cX7_init, cX7_readTape, cX7_readClause, cX7_readSetting, cX7_readAny, cX7_readPart, cX7_readNot, cX7_readTest, cX7_digitsBy, cX7_readNumber, cX7_sees, cX7_take, cX7_takeWord, cX7_takeOneOf, cX8_init, cX8_search, cX8_reach, cX8_passBy, cX9_init, cX9_copyFrom, cX10_init, cX10_feed, cX10_slope, cX10_gate, cX10_of, cX10_turn, cX10_plan, cX10_row, cX10_skier, cX10_skill, cX10_told, cX10_run, cX10_would, cX10_quickest, cX10_clean, cX10_up, cX10_surest]
def zCod_2 : List ByteArray := [cX10_sure, cX10_carry, cX10_start, cX10_rutted, cX10_wax, cX10_loses, cX10_wins, cX10_risk, cX10_set, cX10_rank, cX10_mean, cX10_slowest, cX10_see, cX10_fits, cX10_who, cX10_book, cX10_looked, cX10_act, cX10_trace, cX10_as, cX10_image, cX10_undo, cX10_count, cX10_noGate, cX10_noSkier, cX10_noPart, cX10_outside, cX10_exchange, cX10_note, cX10_goByTheLine, cX10_leastTime, cX10_goBothByBest, cX10_bestLine, cX10_surestWithin, cX10_aheadIfChanged, cX10_linesThatFit, cX10_placeOf, cX10_lowest, cX11_init, cX11_in]
def zCod_3 : List ByteArray := [cX11_within, cX11_isGate, cX11_isSkier, cX11_feed, cX11_here, cX11_must, cX11_spells, cX11_figures, cX11_among, cX11_emits, cX11_factor, cX11_every, cX11_some, cX11_much, cX11_tellsHere, cX11_clauseHere, cX11_slope, cX11_tellsOf, cX11_looks, cX11_gate, cX11_of, cX11_turn, cX11_plan, cX11_row, cX11_skier, cX11_skill, cX11_told, cX11_runsAre, cX11_begins, cX11_asTheyStand, cX11_beginsNow, cX11_looksForPass, cX11_passes, cX11_runsBy, cX11_runsByPlan, cX11_run, cX11_would, cX11_power, cX11_lowest, cX11_up]
def zCod_4 : List ByteArray := [cX11_takesLine, cX11_ends, cX11_isAsSeen, cX11_linesFrom, cX11_looksForLines, cX11_leastBy, cX11_leastNow, cX11_quickest, cX11_clean, cX11_looksForSurest, cX11_surestPart, cX11_surest, cX11_sure, cX11_carry, cX11_start, cX11_keepsBest, cX11_isOther, cX11_rutted, cX11_wax, cX11_runsQuickest, cX11_loses, cX11_wins, cX11_risk, cX11_leads, cX11_set, cX11_looksForTimes, cX11_rank, cX11_mean, cX11_slowest, cX11_see, cX11_fitting, cX11_fits, cX11_who, cX11_book, cX11_looked, cX11_ranBody, cX11_isUnder, cX11_plainTurns, cX11_turnsActs, cX11_plainSlides]
def zCod_5 : List ByteArray := [cX11_slidesActs, cX11_plainTells, cX11_tellsActs, cX11_act, cX11_trace, cX11_as, cX11_image, cX11_undo, cX11_count, cJ0_length_8abf5, cJ0_charAt_5068e, cJ0_indexOf_0f7a4, cJ0_indexOf_7cf53, cJ0_coder_7d493, cJ0_isLatin1_aae02, cJ0_checkIndex_df160, cJ1_charAt_3b067, cJ1_canEncode_9a6ad, cJ1_indexOf_4cfef, cJ1_indexOfChar_4cfef, cJ3_checkIndex_8e157, cL_law]
def zCod : List ByteArray := zCod_0 ++ (zCod_1 ++ (zCod_2 ++ (zCod_3 ++ (zCod_4 ++ (zCod_5)))))
def zNam_0 : List MethodName := [yX0_init, yX0_begin, yX0_perform, yX0_doBody, yX1_init, yX1_clear, yX1_copyFrom, yX1_write, yX1_append, yX1_pacesOf, yX1_pacesOfTest, yX2_init, yX2_append, yX2_copyFrom, yX3_init, yX3_copyFrom, yX4_init, yX4_search, yX4_reach, yX4_passBy, yX5_init, yX5_append, yX5_clear, yX5_copyFrom, yX6_init, yX6_prepare, yX6_sumClauses, yX6_addAt, yX6_tightness, yX6_ruts, yX6_fillGate, yX6_cell, yX6_held, yX6_timeAt, yX6_overAt, yX6_paceAfter, yX6_changePlaces, yX6_leastFrom, yX6_solve, yX6_solveAt]
def zNam_1 : List MethodName := [yX6_goByBest, yX6_go, yX6_hasRowOf, yX7_init, yX7_readTape, yX7_readClause, yX7_readSetting, yX7_readAny, yX7_readPart, yX7_readNot, yX7_readTest, yX7_digitsBy, yX7_readNumber, yX7_sees, yX7_take, yX7_takeWord, yX7_takeOneOf, yX8_init, yX8_search, yX8_reach, yX8_passBy, yX9_init, yX9_copyFrom, yX10_init, yX10_feed, yX10_slope, yX10_gate, yX10_of, yX10_turn, yX10_plan, yX10_row, yX10_skier, yX10_skill, yX10_told, yX10_run, yX10_would, yX10_quickest, yX10_clean, yX10_up, yX10_surest]
def zNam_2 : List MethodName := [yX10_sure, yX10_carry, yX10_start, yX10_rutted, yX10_wax, yX10_loses, yX10_wins, yX10_risk, yX10_set, yX10_rank, yX10_mean, yX10_slowest, yX10_see, yX10_fits, yX10_who, yX10_book, yX10_looked, yX10_act, yX10_trace, yX10_as, yX10_image, yX10_undo, yX10_count, yX10_noGate, yX10_noSkier, yX10_noPart, yX10_outside, yX10_exchange, yX10_note, yX10_goByTheLine, yX10_leastTime, yX10_goBothByBest, yX10_bestLine, yX10_surestWithin, yX10_aheadIfChanged, yX10_linesThatFit, yX10_placeOf, yX10_lowest, yX11_init, yX11_in]
def zNam_3 : List MethodName := [yX11_within, yX11_isGate, yX11_isSkier, yX11_feed, yX11_here, yX11_must, yX11_spells, yX11_figures, yX11_among, yX11_emits, yX11_factor, yX11_every, yX11_some, yX11_much, yX11_tellsHere, yX11_clauseHere, yX11_slope, yX11_tellsOf, yX11_looks, yX11_gate, yX11_of, yX11_turn, yX11_plan, yX11_row, yX11_skier, yX11_skill, yX11_told, yX11_runsAre, yX11_begins, yX11_asTheyStand, yX11_beginsNow, yX11_looksForPass, yX11_passes, yX11_runsBy, yX11_runsByPlan, yX11_run, yX11_would, yX11_power, yX11_lowest, yX11_up]
def zNam_4 : List MethodName := [yX11_takesLine, yX11_ends, yX11_isAsSeen, yX11_linesFrom, yX11_looksForLines, yX11_leastBy, yX11_leastNow, yX11_quickest, yX11_clean, yX11_looksForSurest, yX11_surestPart, yX11_surest, yX11_sure, yX11_carry, yX11_start, yX11_keepsBest, yX11_isOther, yX11_rutted, yX11_wax, yX11_runsQuickest, yX11_loses, yX11_wins, yX11_risk, yX11_leads, yX11_set, yX11_looksForTimes, yX11_rank, yX11_mean, yX11_slowest, yX11_see, yX11_fitting, yX11_fits, yX11_who, yX11_book, yX11_looked, yX11_ranBody, yX11_isUnder, yX11_plainTurns, yX11_turnsActs, yX11_plainSlides]
def zNam_5 : List MethodName := [yX11_slidesActs, yX11_plainTells, yX11_tellsActs, yX11_act, yX11_trace, yX11_as, yX11_image, yX11_undo, yX11_count, yJ0_length_8abf5, yJ0_charAt_5068e, yJ0_indexOf_0f7a4, yJ0_indexOf_7cf53, yJ0_coder_7d493, yJ0_isLatin1_aae02, yJ0_checkIndex_df160, yJ1_charAt_3b067, yJ1_canEncode_9a6ad, yJ1_indexOf_4cfef, yJ1_indexOfChar_4cfef, yJ3_checkIndex_8e157, yL_law]
def zNam : List MethodName := zNam_0 ++ (zNam_1 ++ (zNam_2 ++ (zNam_3 ++ (zNam_4 ++ (zNam_5)))))
def zMax_0 : List Nat := [1, 5, 7, 5, 1, 1, 2, 2, 3, 5, 3, 1, 4, 2, 1, 2, 1, 5, 5, 7, 2, 3, 1, 3, 1, 7, 4, 4, 4, 5, 14, 3, 2, 4, 4, 4, 4, 3, 4, 9]
def zMax_1 : List Nat := [3, 4, 3, 1, 3, 3, 3, 5, 2, 2, 4, 5, 3, 2, 2, 3, 3, 1, 3, 8, 8, 1, 2, 1, 2, 2, 4, 3, 3, 3, 4, 2, 3, 2, 2, 3, 3, 3, 3, 4]
def zMax_2 : List Nat := [4, 3, 3, 3, 2, 8, 13, 6, 8, 3, 5, 5, 3, 4, 3, 3, 2, 4, 2, 5, 1, 1, 2, 2, 2, 1, 3, 4, 3, 2, 3, 3, 5, 4, 4, 2, 4, 12, 1, 3]
def zMax_3 : List Nat := [3, 2, 2, 2, 1, 2, 3, 3, 3, 2, 5, 1, 1, 4, 4, 1, 2, 3, 14, 6, 3, 4, 4, 5, 2, 4, 2, 3, 4, 2, 2, 11, 5, 2, 3, 2, 3, 4, 11, 3]
def zMax_4 : List Nat := [2, 4, 5, 7, 4, 3, 2, 4, 3, 3, 2, 4, 4, 4, 3, 2, 3, 4, 4, 3, 8, 14, 6, 4, 8, 2, 6, 5, 4, 3, 2, 4, 3, 3, 2, 2, 2, 2, 2, 2]
def zMax_5 : List Nat := [2, 2, 3, 4, 2, 3, 2, 2, 2, 1, 2, 2, 3, 1, 1, 2, 2, 1, 4, 6, 3, 4]
def zMax : List Nat := zMax_0 ++ (zMax_1 ++ (zMax_2 ++ (zMax_3 ++ (zMax_4 ++ (zMax_5)))))
def zRet_0 : List (Option FieldType) := [none, (some .int), (some .int), (some .int), none, none, none, none, none, (some .int), (some .int), none, (some .int), none, none, none, none, (some .int), none, none, none, (some .boolean), (some .int), none, none, none, none, none, (some .int), (some .int), none, (some .int), (some .int), (some .int), (some .int), (some .int), none, (some .int), (some .int), none]
def zRet_1 : List (Option FieldType) := [none, none, (some .boolean), none, (some .boolean), (some .boolean), (some .boolean), (some .boolean), (some .boolean), (some .boolean), (some .boolean), (some .int), (some .int), (some .boolean), (some .boolean), (some .boolean), (some .int), none, none, none, none, none, none, none, (some .int), (some .int), (some .int), (some .int), (some .int), (some .int), (some .int), (some .int), (some .int), (some .int), (some .int), (some .int), (some .int), (some .int), (some .long), (some .long)]
def zRet_2 : List (Option FieldType) := [(some .int), (some .int), (some .int), (some .int), (some .int), (some .int), (some .long), (some .long), (some .int), (some .int), (some .long), (some .int), (some .int), (some .int), (some .int), (some .int), (some .int), (some .int), (some .int), (some .int), (some .int), (some .int), (some .int), (some .boolean), (some .boolean), (some .boolean), (some .boolean), (some .int), (some .int), none, (some .int), none, (some .int), (some .long), (some .int), (some .int), (some .int), (some .long), none, (some .boolean)]
def zRet_3 : List (Option FieldType) := [(some .int), (some .boolean), (some .boolean), (some .int), (some .int), none, none, (some .int), (some .int), none, none, none, none, none, none, none, (some .int), (some .int), none, (some .int), (some .int), (some .int), (some .int), (some .int), (some .int), (some .int), (some .int), none, none, none, none, none, none, none, none, (some .int), (some .int), (some .long), (some .long), (some .long)]
def zRet_4 : List (Option FieldType) := [none, none, (some .boolean), none, none, (some .int), (some .int), (some .int), (some .int), none, (some .long), (some .long), (some .int), (some .int), (some .int), none, (some .boolean), (some .int), (some .int), none, (some .int), (some .long), (some .long), (some .int), (some .int), none, (some .int), (some .long), (some .int), (some .int), (some .int), (some .int), (some .int), (some .int), (some .int), none, (some .boolean), (some .int), (some .int), (some .int)]
def zRet_5 : List (Option FieldType) := [(some .int), (some .int), (some .int), (some .int), (some .int), (some .int), (some .int), (some .int), (some .int), (some .int), (some .char), (some .int), (some .int), (some .byte), (some .boolean), none, (some .char), (some .boolean), (some .int), (some .int), (some .int), (some .boolean)]
def zRet : List (Option FieldType) := zRet_0 ++ (zRet_1 ++ (zRet_2 ++ (zRet_3 ++ (zRet_4 ++ (zRet_5)))))
def zRc_0 : List Nat := [9, 0, 0, 0, 9, 9, 9, 9, 9, 0, 0, 9, 0, 9, 9, 9, 9, 0, 9, 9, 9, 1, 0, 9, 9, 9, 9, 9, 0, 0, 9, 0, 0, 0, 0, 0, 9, 0, 0, 9]
def zRc_1 : List Nat := [9, 9, 1, 9, 1, 1, 1, 1, 1, 1, 1, 0, 0, 1, 1, 1, 0, 9, 9, 9, 9, 9, 9, 9, 0, 0, 0, 0, 0, 0, 0, 0, 0, 0, 0, 0, 0, 0, 8, 8]
def zRc_2 : List Nat := [0, 0, 0, 0, 0, 0, 8, 8, 0, 0, 8, 0, 0, 0, 0, 0, 0, 0, 0, 0, 0, 0, 0, 1, 1, 1, 1, 0, 0, 9, 0, 9, 0, 8, 0, 0, 0, 8, 9, 1]
def zRc_3 : List Nat := [0, 1, 1, 0, 0, 9, 9, 0, 0, 9, 9, 9, 9, 9, 9, 9, 0, 0, 9, 0, 0, 0, 0, 0, 0, 0, 0, 9, 9, 9, 9, 9, 9, 9, 9, 0, 0, 8, 8, 8]
def zRc_4 : List Nat := [9, 9, 1, 9, 9, 0, 0, 0, 0, 9, 8, 8, 0, 0, 0, 9, 1, 0, 0, 9, 0, 8, 8, 0, 0, 9, 0, 8, 0, 0, 0, 0, 0, 0, 0, 9, 1, 0, 0, 0]
def zRc_5 : List Nat := [0, 0, 0, 0, 0, 0, 0, 0, 0, 0, 2, 0, 0, 3, 1, 9, 2, 1, 0, 0, 0, 1]
def zRc : List Nat := zRc_0 ++ (zRc_1 ++ (zRc_2 ++ (zRc_3 ++ (zRc_4 ++ (zRc_5)))))
def zOw_0 : List Nat := [0, 0, 0, 0, 1, 1, 1, 1, 1, 1, 1, 2, 2, 2, 3, 3, 4, 4, 4, 4, 5, 5, 5, 5, 6, 6, 6, 6, 6, 6, 6, 6, 6, 6, 6, 6, 6, 6, 6, 6]
def zOw_1 : List Nat := [6, 6, 6, 7, 7, 7, 7, 7, 7, 7, 7, 7, 7, 7, 7, 7, 7, 8, 8, 8, 8, 9, 9, 10, 10, 10, 10, 10, 10, 10, 10, 10, 10, 10, 10, 10, 10, 10, 10, 10]
def zOw_2 : List Nat := [10, 10, 10, 10, 10, 10, 10, 10, 10, 10, 10, 10, 10, 10, 10, 10, 10, 10, 10, 10, 10, 10, 10, 10, 10, 10, 10, 10, 10, 10, 10, 10, 10, 10, 10, 10, 10, 10, 11, 11]
def zOw_3 : List Nat := [11, 11, 11, 11, 11, 11, 11, 11, 11, 11, 11, 11, 11, 11, 11, 11, 11, 11, 11, 11, 11, 11, 11, 11, 11, 11, 11, 11, 11, 11, 11, 11, 11, 11, 11, 11, 11, 11, 11, 11]
def zOw_4 : List Nat := [11, 11, 11, 11, 11, 11, 11, 11, 11, 11, 11, 11, 11, 11, 11, 11, 11, 11, 11, 11, 11, 11, 11, 11, 11, 11, 11, 11, 11, 11, 11, 11, 11, 11, 11, 11, 11, 11, 11, 11]
def zOw_5 : List Nat := [11, 11, 11, 11, 11, 11, 11, 11, 11, 12, 12, 12, 12, 12, 12, 12, 13, 13, 13, 13, 14, 16]
def zOw : List Nat := zOw_0 ++ (zOw_1 ++ (zOw_2 ++ (zOw_3 ++ (zOw_4 ++ (zOw_5)))))
def zCls : List String := [RX0, RX1, RX2, RX3, RX4, RX5, RX6, RX7, RX8, RX9, RX10, RX11, RJ0, RJ1, RJ3, RJ9, RL]
def zF_0 : List (Nat × Nat × Nat × Nat) := [(0, 9, 0, 1), (0, 15, 0, 0), (0, 19, 2, 1), (0, 24, 0, 2), (0, 27, 2, 2), (0, 30, 0, 3), (0, 33, 0, 4), (1, 11, 1, 4), (1, 15, 1, 5), (1, 19, 1, 6), (1, 22, 1, 7), (1, 25, 1, 8), (1, 28, 1, 0), (1, 32, 1, 1), (1, 35, 1, 2), (1, 38, 1, 3), (2, 9, 2, 1), (2, 15, 2, 2), (2, 18, 2, 3), (2, 21, 2, 4), (2, 24, 2, 5), (2, 27, 2, 0), (3, 12, 3, 0), (3, 18, 3, 1), (3, 25, 3, 4), (3, 32, 3, 5), (3, 41, 3, 7), (3, 45, 3, 8), (3, 58, 3, 2), (3, 62, 3, 3), (3, 71, 3, 6), (4, 9, 4, 0), (4, 15, 4, 1), (4, 18, 4, 2), (4, 21, 4, 3), (4, 25, 5, 0), (4, 30, 5, 1), (4, 33, 5, 2), (4, 40, 6, 0), (5, 7, 5, 1)]
def zF_1 : List (Nat × Nat × Nat × Nat) := [(5, 13, 5, 2), (5, 16, 5, 0), (6, 9, 6, 1), (6, 15, 6, 2), (6, 18, 6, 3), (6, 21, 6, 4), (6, 24, 6, 5), (6, 27, 6, 6), (6, 30, 6, 7), (6, 33, 6, 8), (6, 36, 6, 9), (6, 39, 6, 10), (6, 42, 6, 11), (6, 45, 6, 12), (6, 48, 3, 0), (6, 54, 2, 0), (6, 60, 6, 0), (6, 61, 3, 1), (6, 64, 2, 1), (6, 67, 2, 3), (6, 70, 3, 5), (6, 89, 1, 2), (6, 92, 1, 4), (6, 100, 1, 5), (6, 107, 1, 1), (6, 110, 2, 2), (6, 113, 1, 0), (6, 116, 2, 5), (6, 150, 6, 13), (6, 153, 6, 14), (6, 156, 6, 15), (6, 160, 6, 16), (7, 12, 7, 0), (7, 18, 7, 3), (7, 22, 9, 0), (7, 28, 9, 1), (7, 35, 7, 2), (7, 36, 7, 1), (7, 80, 1, 0), (7, 83, 1, 1)]
def zF_2 : List (Nat × Nat × Nat × Nat) := [(8, 9, 8, 1), (8, 15, 8, 2), (8, 18, 8, 3), (8, 24, 8, 0), (8, 32, 6, 0), (9, 9, 9, 1), (9, 15, 9, 0), (10, 12, 10, 0), (10, 18, 10, 1), (10, 24, 10, 3), (10, 31, 10, 4), (10, 35, 10, 5), (10, 41, 10, 6), (10, 48, 10, 7), (10, 55, 10, 8), (10, 59, 10, 9), (10, 67, 3, 4), (10, 71, 9, 0), (10, 77, 9, 1), (10, 80, 3, 6), (10, 87, 7, 1), (10, 90, 3, 5), (10, 94, 7, 0), (10, 103, 3, 0), (10, 107, 2, 0), (10, 118, 2, 1), (10, 121, 2, 2), (10, 124, 2, 3), (10, 127, 2, 4), (10, 134, 2, 5), (10, 137, 3, 2), (10, 140, 3, 1), (10, 146, 3, 3), (10, 149, 1, 0), (10, 152, 1, 1), (10, 159, 6, 13), (10, 162, 6, 14), (10, 165, 6, 15), (10, 169, 6, 11), (10, 172, 6, 12)]
def zF_3 : List (Nat × Nat × Nat × Nat) := [(10, 184, 6, 16), (10, 192, 6, 0), (10, 209, 8, 0), (10, 212, 8, 1), (10, 245, 3, 7), (10, 262, 4, 0), (10, 265, 3, 8), (10, 268, 5, 0), (10, 269, 5, 1), (10, 272, 5, 2), (10, 275, 0, 0), (10, 287, 0, 1), (10, 296, 10, 2), (10, 307, 6, 10), (11, 9, 11, 1), (11, 15, 11, 2), (11, 18, 11, 9), (11, 21, 11, 10), (11, 25, 11, 13), (11, 28, 11, 17), (11, 31, 11, 18), (11, 34, 11, 19), (11, 37, 11, 20), (11, 40, 11, 21), (11, 43, 11, 25), (11, 46, 11, 26), (11, 49, 11, 27), (11, 52, 11, 32), (11, 55, 11, 33), (11, 58, 11, 39), (11, 61, 11, 40), (11, 64, 11, 41), (11, 67, 11, 42), (11, 78, 11, 5), (11, 81, 11, 6), (11, 84, 11, 7), (11, 105, 11, 4), (11, 108, 11, 8), (11, 156, 11, 11), (11, 159, 11, 12)]
def zF_4 : List (Nat × Nat × Nat × Nat) := [(11, 173, 11, 15), (11, 176, 11, 14), (11, 197, 11, 22), (11, 200, 11, 23), (11, 203, 11, 16), (11, 206, 11, 24), (11, 213, 11, 28), (11, 216, 11, 29), (11, 219, 11, 30), (11, 222, 11, 31), (11, 250, 11, 38), (11, 253, 11, 34), (11, 256, 11, 35), (11, 259, 11, 37), (11, 265, 11, 36), (11, 318, 11, 43), (11, 324, 11, 45), (11, 327, 11, 44), (11, 339, 11, 46), (11, 354, 11, 3), (12, 9, 12, 0), (12, 15, 12, 1)]
def zF : List (Nat × Nat × Nat × Nat) := zF_0 ++ (zF_1 ++ (zF_2 ++ (zF_3 ++ (zF_4))))
def zM_0 : List (Nat × Nat × Nat × Nat × Int) := [(0, 3, 0, 0, 9), (0, 36, 2, 5, 1), (0, 46, 3, 5, 1), (1, 5, 0, 0, 9), (1, 41, 0, 0, 8), (1, 47, 10, 2, 0), (2, 3, 0, 0, 9), (2, 31, 0, 0, 8), (3, 3, 0, 0, 9), (3, 11, 11, 1, 3), (3, 24, 61, 1, 3), (3, 31, 4, 1, 3), (3, 38, 20, 2, 2), (3, 48, 13, 2, 1), (3, 52, 0, 0, 8), (3, 65, 62, 2, 1), (3, 68, 6, 2, 1), (3, 74, 23, 2, 1), (4, 3, 0, 0, 9), (4, 36, 18, 5, 1), (4, 43, 19, 5, 1), (4, 46, 0, 0, 8), (4, 52, 33, 4, 1), (4, 56, 35, 4, 1), (5, 1, 0, 0, 9), (5, 20, 0, 0, 11), (5, 26, 0, 0, 8), (6, 3, 0, 0, 9), (6, 74, 26, 3, 1), (6, 78, 28, 3, 0), (6, 82, 29, 3, 0), (6, 85, 30, 5, 1), (6, 96, 9, 3, 1), (6, 103, 27, 3, 0), (6, 119, 0, 0, 11), (6, 125, 31, 3, 0), (6, 129, 32, 2, 0), (6, 132, 0, 0, 10), (6, 135, 39, 4, 1), (6, 139, 37, 3, 1)]
def zM_1 : List (Nat × Nat × Nat × Nat × Int) := [(6, 143, 35, 4, 1), (6, 146, 41, 2, 1), (7, 3, 0, 0, 9), (7, 11, 4, 1, 3), (7, 29, 0, 0, 11), (7, 39, 5, 1, 1), (7, 42, 45, 1, 1), (7, 46, 54, 2, 1), (7, 50, 53, 2, 1), (7, 53, 46, 1, 1), (7, 60, 55, 2, 1), (7, 64, 52, 1, 1), (7, 68, 47, 2, 1), (7, 72, 8, 3, 1), (7, 86, 48, 2, 1), (7, 89, 7, 2, 1), (7, 93, 49, 2, 1), (7, 96, 50, 1, 1), (7, 101, 56, 2, 1), (7, 107, 51, 2, 0), (7, 112, 209, 1, 1), (7, 117, 210, 2, 1), (7, 121, 211, 2, 1), (8, 3, 0, 0, 9), (8, 28, 59, 6, 1), (8, 37, 37, 3, 1), (8, 45, 60, 6, 1), (8, 48, 0, 0, 8), (8, 54, 35, 4, 1), (8, 58, 33, 4, 1), (8, 61, 34, 4, 1), (9, 3, 0, 0, 9), (9, 19, 0, 0, 8), (10, 3, 0, 0, 9), (10, 11, 14, 1, 3), (10, 23, 43, 1, 3), (10, 30, 24, 1, 3), (10, 40, 57, 1, 3), (10, 47, 16, 1, 3), (10, 54, 0, 1, 3)]
def zM_2 : List (Nat × Nat × Nat × Nat × Int) := [(10, 63, 106, 3, 0), (10, 83, 44, 2, 1), (10, 97, 6, 2, 1), (10, 110, 12, 4, 1), (10, 114, 103, 2, 1), (10, 130, 107, 3, 0), (10, 143, 104, 2, 1), (10, 155, 109, 2, 1), (10, 175, 112, 4, 1), (10, 179, 105, 1, 0), (10, 193, 117, 3, 0), (10, 197, 113, 4, 1), (10, 201, 110, 3, 1), (10, 205, 58, 3, 1), (10, 215, 37, 3, 1), (10, 219, 25, 5, 1), (10, 223, 38, 2, 1), (10, 227, 40, 1, 1), (10, 230, 42, 2, 1), (10, 234, 111, 3, 1), (10, 238, 114, 3, 1), (10, 241, 116, 2, 1), (10, 249, 22, 1, 1), (10, 255, 108, 3, 0), (10, 259, 115, 2, 1), (10, 278, 1, 5, 1), (10, 282, 0, 0, 11), (10, 293, 15, 2, 1), (10, 299, 21, 3, 1), (10, 302, 41, 2, 1), (10, 309, 0, 0, 12), (10, 313, 36, 3, 1), (10, 316, 17, 3, 1), (11, 3, 0, 0, 9), (11, 74, 119, 3, 0), (11, 88, 124, 1, 1), (11, 92, 209, 1, 1), (11, 97, 210, 2, 1), (11, 101, 125, 2, 1), (11, 111, 130, 1, 1)]
def zM_3 : List (Nat × Nat × Nat × Nat × Int) := [(11, 114, 129, 2, 1), (11, 117, 132, 1, 1), (11, 122, 128, 2, 1), (11, 128, 127, 1, 1), (11, 131, 131, 1, 1), (11, 134, 126, 2, 1), (11, 140, 134, 3, 1), (11, 148, 133, 3, 1), (11, 153, 135, 1, 1), (11, 162, 137, 3, 1), (11, 166, 121, 2, 1), (11, 170, 122, 2, 1), (11, 179, 147, 2, 1), (11, 182, 149, 1, 1), (11, 185, 148, 3, 1), (11, 189, 138, 5, 1), (11, 193, 120, 3, 0), (11, 209, 151, 4, 1), (11, 226, 152, 4, 1), (11, 229, 150, 2, 1), (11, 232, 153, 1, 1), (11, 235, 154, 2, 1), (11, 242, 157, 1, 0), (11, 246, 158, 3, 0), (11, 262, 160, 1, 1), (11, 268, 161, 3, 1), (11, 272, 162, 3, 1), (11, 276, 163, 5, 1), (11, 283, 164, 4, 1), (11, 286, 165, 3, 1), (11, 289, 166, 2, 1), (11, 293, 169, 3, 1), (11, 296, 170, 2, 1), (11, 299, 175, 1, 1), (11, 302, 176, 1, 1), (11, 306, 179, 2, 1), (11, 309, 183, 3, 1), (11, 312, 185, 1, 1), (11, 315, 190, 2, 1), (11, 321, 195, 2, 1)]
def zM_4 : List (Nat × Nat × Nat × Nat × Int) := [(11, 330, 196, 2, 0), (11, 333, 197, 2, 1), (11, 336, 198, 2, 1), (11, 342, 199, 2, 1), (11, 345, 200, 2, 1), (11, 348, 201, 2, 1), (11, 351, 202, 2, 1), (12, 335, 213, 1, 1), (12, 492, 214, 1, 1), (12, 495, 216, 2, 0), (12, 505, 209, 1, 1), (12, 633, 212, 3, 1), (12, 637, 218, 4, 0), (12, 1059, 220, 3, 0), (13, 9, 215, 2, 0), (13, 38, 0, 0, 11), (13, 88, 217, 1, 0), (13, 92, 0, 0, 10), (13, 95, 219, 4, 0), (16, 9, 63, 1, 2), (16, 12, 118, 1, 2), (16, 13, 64, 2, 1), (16, 17, 123, 2, 1), (16, 18, 65, 1, 1), (16, 22, 136, 1, 1), (16, 23, 66, 4, 1), (16, 27, 139, 4, 1), (16, 28, 67, 3, 1), (16, 32, 140, 3, 1), (16, 33, 68, 3, 1), (16, 36, 141, 3, 1), (16, 37, 69, 3, 1), (16, 40, 142, 3, 1), (16, 41, 70, 4, 1), (16, 44, 143, 4, 1), (16, 45, 71, 2, 1), (16, 48, 144, 2, 1), (16, 49, 72, 3, 1), (16, 52, 145, 3, 1), (16, 53, 73, 2, 1)]
def zM_5 : List (Nat × Nat × Nat × Nat × Int) := [(16, 56, 146, 2, 1), (16, 57, 74, 2, 1), (16, 60, 155, 2, 1), (16, 61, 75, 3, 1), (16, 64, 156, 3, 1), (16, 65, 76, 3, 1), (16, 68, 167, 3, 1), (16, 69, 77, 3, 1), (16, 72, 168, 3, 1), (16, 73, 78, 3, 1), (16, 77, 159, 3, 1), (16, 78, 79, 4, 1), (16, 82, 171, 4, 1), (16, 83, 80, 4, 1), (16, 86, 172, 4, 1), (16, 87, 81, 3, 1), (16, 90, 173, 3, 1), (16, 91, 82, 3, 1), (16, 94, 174, 3, 1), (16, 95, 83, 2, 1), (16, 98, 177, 2, 1), (16, 99, 84, 2, 1), (16, 102, 178, 2, 1), (16, 103, 85, 4, 1), (16, 106, 180, 4, 1), (16, 107, 86, 5, 1), (16, 111, 181, 5, 1), (16, 112, 87, 5, 1), (16, 115, 182, 5, 1), (16, 116, 88, 3, 1), (16, 119, 184, 3, 1), (16, 120, 89, 2, 1), (16, 123, 186, 2, 1), (16, 124, 90, 2, 1), (16, 128, 187, 2, 1), (16, 129, 91, 2, 1), (16, 132, 188, 2, 1), (16, 133, 92, 3, 1), (16, 136, 189, 3, 1), (16, 137, 93, 3, 1)]
def zM_6 : List (Nat × Nat × Nat × Nat × Int) := [(16, 140, 191, 3, 1), (16, 141, 94, 1, 1), (16, 144, 192, 1, 1), (16, 145, 95, 3, 1), (16, 148, 193, 3, 1), (16, 149, 96, 1, 1), (16, 152, 194, 1, 1), (16, 153, 97, 4, 1), (16, 156, 203, 4, 1), (16, 157, 98, 2, 1), (16, 160, 204, 2, 1), (16, 161, 99, 3, 1), (16, 164, 205, 3, 1), (16, 165, 100, 1, 1), (16, 168, 206, 1, 1), (16, 169, 101, 1, 1), (16, 172, 207, 1, 1), (16, 173, 102, 2, 1), (16, 176, 208, 2, 1)]
def zM : List (Nat × Nat × Nat × Nat × Int) := zM_0 ++ (zM_1 ++ (zM_2 ++ (zM_3 ++ (zM_4 ++ (zM_5 ++ (zM_6))))))
def zS : List (Nat × Nat × Nat) := [(0, 40, 4), (0, 43, 2), (8, 41, 3), (10, 188, 3), (10, 290, 2), (12, 38, 0), (12, 1053, 5)]
def zC : List (Nat × Nat × Nat) := [(3, 9, 2), (3, 22, 9), (3, 29, 1), (3, 36, 5), (7, 9, 1), (10, 9, 3), (10, 21, 7), (10, 28, 6), (10, 38, 8), (10, 45, 4), (10, 52, 0), (16, 7, 10), (16, 10, 11)]
def zT : List (Nat × Nat × Nat) := [(7, 56, 9), (7, 58, 10), (7, 76, 6), (7, 78, 7), (7, 99, 11), (7, 105, 12), (7, 110, 8), (11, 120, 16), (11, 126, 17), (11, 138, 13), (11, 144, 14), (11, 146, 15), (11, 151, 18)]
def zK : List (Nat × Nat × Int) := [(6, 142, 100000000), (10, 306, 100000000), (11, 280, 1000000)]
def zL : List (Nat × Nat × Int) := [(8, 22, (-1)), (10, 182, (-9223372036854775808)), (11, 238, 20), (11, 240, (-9223372036854775808)), (11, 281, (-1))]
def zKk : List (List Nat) := [[0, 3, 0, 0, 0], [0, 0, 0, 0, 3, 3, 3, 3, 3], [0, 3, 3, 3, 3, 3], [3, 3, 0, 0, 3, 3, 0, 3, 3], [3, 3, 3, 0], [0, 3, 3], [0, 3, 3, 3, 3, 3, 3, 3, 3, 3, 3, 3, 3, 0, 0, 1, 2], [3, 0, 0, 3], [2, 3, 3, 0], [0, 3], [3, 3, 1, 3, 3, 3, 3, 3, 3, 3], [0, 3, 3, 1, 0, 0, 0, 1, 0, 3, 3, 0, 0, 3, 0, 0, 1, 3, 3, 3, 3, 3, 0, 0, 0, 3, 3, 3, 0, 0, 1, 2, 3, 3, 0, 0, 0, 2, 0, 3, 3, 3, 3, 0, 0, 0, 0]]
def zFin : List (List Int) := [[0, 1, 0, 0, 0], [0, 0, 0, 0, 1, 1, 1, 1, 1], [0, 1, 1, 1, 1, 1], [1, 1, 0, 0, 1, 1, 0, 1, 1], [1, 1, 1, 0], [0, 1, 1], [0, 1, 1, 1, 1, 1, 1, 1, 1, 1, 1, 1, 1, 0, 0, 0, 0], [1, 0, 0, 0], [0, 1, 1, 0], [0, 1], [1, 1, 0, 1, 1, 1, 1, 1, 1, 1], [0, 1, 1, 0, 0, 0, 0, 0, 0, 1, 1, 0, 0, 1, 0, 0, 0, 1, 1, 1, 1, 1, 0, 0, 0, 1, 1, 1, 0, 0, 0, 0, 1, 1, 0, 0, 0, 0, 0, 1, 1, 1, 1, 0, 0, 0, 0]]
def zStr : List (List Int) := [[114, 117, 116, 32], [102, 111, 103, 32], [48, 49, 50, 51, 52, 53, 54, 55, 56, 57], [119, 97, 120, 32], [105, 99, 101, 32], [103, 107, 116, 112, 114, 115], [60, 61, 62], [114, 117, 116, 32], [102, 111, 103, 32], [119, 97, 120, 32], [103, 107, 116, 112, 114, 115], [60, 61, 62], [105, 99, 101, 32]]
def zAbove : List Int := [-1, 0, 0, 0, 1, 2, 3]
def zOf : List Int := [1, 20, 400, 8000, 160000, 3200000, 64000000, 1280000000]
def zBody : List Int := [1, 2, 3, 11, 0, 0, 0, 21, 0, 0, 0, 31, 0, 0, 41, 51, 0, 0, 0, 61, 0]
-- ===== a plain machine: values are whole numbers and numbered references; a heap is (cells, slots, kinds, references, numbers) =====
abbrev XV : Type := Sum Int (Sum Int Nat)
abbrev vI (x : Int) : XV := Sum.inl x
abbrev vL (x : Int) : XV := Sum.inr (Sum.inl x)
abbrev vR (n : Nat) : XV := Sum.inr (Sum.inr n)
abbrev XM : Type := Nat → Int → Int
abbrev XH : Type := Nat × Nat × (Nat → Nat × Nat) × (Nat → Nat → Nat) × XM
abbrev XI : Type := Nat × Nat × Nat × Nat × Int × List (Int × Nat)
abbrev XR : Type := Option (Option XV × XH)
def zCodAt (n : Nat) : ByteArray := (zCod[n]?).getD ⟨#[]⟩
def zNamAt (n : Nat) : MethodName := (zNam[n]?).getD ⟨"", "", ""⟩
def zMaxAt (n : Nat) : Nat := (zMax[n]?).getD 0
def zRetAt (n : Nat) : Option FieldType := (zRet[n]?).getD none
def zRcAt (n : Nat) : Nat := (zRc[n]?).getD 9
def zOwAt (n : Nat) : Nat := (zOw[n]?).getD 99
def zClsAt (o : Nat) : String := (zCls[o]?).getD ""
def zKkAt (c k : Nat) : Nat := ((zKk[c]?).getD [])[k]?.getD 9
def zFinAt (c k : Nat) : Int := ((zFin[c]?).getD [])[k]?.getD 0
def zNf (c : Nat) : Nat := ((zKk[c]?).getD []).length
def zTab (c : Nat) (k : Int) : Int :=
  if c = 2 then zAbove[k.toNat]?.getD 0 else if c = 3 then zOf[k.toNat]?.getD 0 else if c = 4 then zBody[k.toNat]?.getD 0 else ((zStr[c - 19]?).getD [])[k.toNat]?.getD 0
def w32 (x : Int) : Int := (x + 2147483648) % 4294967296 - 2147483648
def w64 (x : Int) : Int := (x + 9223372036854775808) % 18446744073709551616 - 9223372036854775808
def iAnd (a b : Int) : Int := (Int32.ofInt a &&& Int32.ofInt b).toInt
def iOr (a b : Int) : Int := (Int32.ofInt a ||| Int32.ofInt b).toInt
def iXor (a b : Int) : Int := (Int32.ofInt a ^^^ Int32.ofInt b).toInt
def iShl (a b : Int) : Int := (Int32.ofInt a <<< (Int32.ofInt b &&& 31)).toInt
def iShr (a b : Int) : Int := (Int32.ofInt a >>> (Int32.ofInt b &&& 31)).toInt
def iDiv (a b : Int) : Int := (Int32.ofInt a / Int32.ofInt b).toInt
def iRem (a b : Int) : Int := (Int32.ofInt a - Int32.ofInt a / Int32.ofInt b * Int32.ofInt b).toInt
def i2C (a : Int) : Int := ((Int32.ofInt a).toUInt32 % 65536).toInt32.toInt
def i2B (a : Int) : Int := (Int32.ofInt a).toInt8.toInt32.toInt
def lDiv (a b : Int) : Int := (Int64.ofInt a / Int64.ofInt b).toInt
def lRem (a b : Int) : Int := (Int64.ofInt a - Int64.ofInt a / Int64.ofInt b * Int64.ofInt b).toInt
def lCmp (a b : Int) : Int := if a < b then -1 else if a = b then 0 else 1
def up1 {α : Type} (f : Nat → α) (c : Nat) (v : α) : Nat → α := fun x => if x = c then v else f x
def upi (f : Int → Int) (k v : Int) : Int → Int := fun y => if y = k then v else f y
def up2 (m : XM) (c : Nat) (k v : Int) : XM := fun x => if x = c then upi (m c) k v else m x
def upr (f : Nat → Nat → Nat) (c k v : Nat) : Nat → Nat → Nat := fun x => if x = c then (fun y => if y = k then v else f c y) else f x
def upc (m : XM) (s : Nat) (sp : Int) (d : Nat) (dp n : Int) : XM := fun x => if x = d then (fun y => if dp ≤ y ∧ y < dp + n then m s (sp + (y - dp)) else m d y) else m x
-- locals: a long stands ahead of an unset place (vR 0)
def flat : List XV → List XV
  | [] => []
  | (.inr (.inl x)) :: t => vL x :: vR 0 :: flat t
  | v :: t => v :: flat t
def entryL (mid : Nat) (args : List XV) : List XV := flat args ++ List.replicate (zMaxAt mid - (flat args).length) (vR 0)
def isLong : Option XV → Bool
  | some (.inr (.inl _)) => true
  | _ => false
-- ===== the instructions =====
abbrev XC : Type := Nat → Nat → List XV → XH → XR
abbrev XK : Type := Nat → List XV → List XV → XH → XR
abbrev XO : Type := Nat → Nat → Nat → Int → List (Int × Nat) → XC → XK → Nat → List XV → List XV → XH → XR
def oBad : XO := fun _ _ _ _ _ _ _ _ _ _ _ => none
def oPushI : XO := fun nx _ _ v _ _ k _ ls st H => k nx ls (vI v :: st) H
def oPushL : XO := fun nx _ _ v _ _ k _ ls st H => k nx ls (vL v :: st) H
def oLoadI : XO := fun nx a _ _ _ _ k _ ls st H => match ls[a]? with
  | some (.inl x) => k nx ls (vI x :: st) H
  | _ => none
def oLoadA : XO := fun nx a _ _ _ _ k _ ls st H => match ls[a]? with
  | some (.inr (.inr n)) => if n = 0 then none else k nx ls (vR n :: st) H
  | _ => none
def oLoadL : XO := fun nx a _ _ _ _ k _ ls st H => match ls[a]? with
  | some (.inr (.inl x)) => k nx ls (vL x :: st) H
  | _ => none
def prevLong (ls : List XV) (a : Nat) : Bool := match a with
  | 0 => false
  | a + 1 => isLong ls[a]?
def oStoreI : XO := fun nx a _ _ _ _ k _ ls st H => match st with
  | (.inl x) :: st' => if a < ls.length ∧ prevLong ls a = false then k nx (ls.set a (vI x)) st' H else none
  | _ => none
def oStoreA : XO := fun nx a _ _ _ _ k _ ls st H => match st with
  | (.inr (.inr n)) :: st' => if a < ls.length ∧ prevLong ls a = false ∧ n ≠ 0 then k nx (ls.set a (vR n)) st' H else none
  | _ => none
def oStoreL : XO := fun nx a _ _ _ _ k _ ls st H => match st with
  | (.inr (.inl x)) :: st' => if a + 1 < ls.length ∧ prevLong ls a = false then k nx ((ls.set a (vL x)).set (a + 1) (vR 0)) st' H else none
  | _ => none
def oIinc : XO := fun nx a _ v _ _ k _ ls st H => match ls[a]? with
  | some (.inl x) => if prevLong ls a = false then k nx (ls.set a (vI (w32 (x + v)))) st H else none
  | _ => none
def oBin (f : Int → Int → Int) : XO := fun nx _ _ _ _ _ k _ ls st H => match st with
  | (.inl y) :: (.inl x) :: st' => k nx ls (vI (f x y) :: st') H
  | _ => none
def oDivI (f : Int → Int → Int) : XO := fun nx _ _ _ _ _ k _ ls st H => match st with
  | (.inl y) :: (.inl x) :: st' => if y = 0 then none else k nx ls (vI (f x y) :: st') H
  | _ => none
def oUn (f : Int → Int) : XO := fun nx _ _ _ _ _ k _ ls st H => match st with
  | (.inl x) :: st' => k nx ls (vI (f x) :: st') H
  | _ => none
def oBinL (f : Int → Int → Int) : XO := fun nx _ _ _ _ _ k _ ls st H => match st with
  | (.inr (.inl y)) :: (.inr (.inl x)) :: st' => k nx ls (vL (f x y) :: st') H
  | _ => none
def oDivL (f : Int → Int → Int) : XO := fun nx _ _ _ _ _ k _ ls st H => match st with
  | (.inr (.inl y)) :: (.inr (.inl x)) :: st' => if y = 0 then none else k nx ls (vL (f x y) :: st') H
  | _ => none
def oLcmp : XO := fun nx _ _ _ _ _ k _ ls st H => match st with
  | (.inr (.inl y)) :: (.inr (.inl x)) :: st' => k nx ls (vI (lCmp x y) :: st') H
  | _ => none
def oI2l : XO := fun nx _ _ _ _ _ k _ ls st H => match st with
  | (.inl x) :: st' => k nx ls (vL x :: st') H
  | _ => none
def oGoto : XO := fun _ a _ _ _ _ k _ ls st H => k a ls st H
def oIf (c : Int → Bool) : XO := fun nx a _ _ _ _ k _ ls st H => match st with
  | (.inl x) :: st' => if c x = true then k a ls st' H else k nx ls st' H
  | _ => none
def oIfc (c : Int → Int → Bool) : XO := fun nx a _ _ _ _ k _ ls st H => match st with
  | (.inl y) :: (.inl x) :: st' => if c x y = true then k a ls st' H else k nx ls st' H
  | _ => none
def oDup : XO := fun nx _ _ _ _ _ k _ ls st H => match st with
  | x :: st' => if isLong (some x) = true then none else k nx ls (x :: x :: st') H
  | _ => none
def oDupX1 : XO := fun nx _ _ _ _ _ k _ ls st H => match st with
  | x :: y :: st' => if isLong (some x) = true ∨ isLong (some y) = true then none else k nx ls (x :: y :: x :: st') H
  | _ => none
def oDup2 : XO := fun nx _ _ _ _ _ k _ ls st H => match st with
  | x :: y :: st' => if isLong (some x) = true ∨ isLong (some y) = true then none else k nx ls (x :: y :: x :: y :: st') H
  | _ => none
def oPop : XO := fun nx _ _ _ _ _ k _ ls st H => match st with
  | x :: st' => if isLong (some x) = true then none else k nx ls st' H
  | _ => none
-- fields: a the class, b the place
def oGetI : XO := fun nx a b _ _ _ k _ ls st H => match st with
  | (.inr (.inr o)) :: st' => if H.2.2.1 o = (1, a) then k nx ls (vI (H.2.2.2.2 o (b : Int)) :: st') H else none
  | _ => none
def oGetL : XO := fun nx a b _ _ _ k _ ls st H => match st with
  | (.inr (.inr o)) :: st' => if H.2.2.1 o = (1, a) then k nx ls (vL (H.2.2.2.2 o (b : Int)) :: st') H else none
  | _ => none
def oGetR : XO := fun nx a b _ _ _ k _ ls st H => match st with
  | (.inr (.inr o)) :: st' => if H.2.2.1 o = (1, a) ∧ H.2.2.2.1 o b ≠ 0 then k nx ls (vR (H.2.2.2.1 o b) :: st') H else none
  | _ => none
def setM (H : XH) (m : XM) : XH := (H.1, H.2.1, H.2.2.1, H.2.2.2.1, m)
def setR (H : XH) (r : Nat → Nat → Nat) : XH := (H.1, H.2.1, H.2.2.1, r, H.2.2.2.2)
def oPutI : XO := fun nx a b _ _ _ k _ ls st H => match st with
  | (.inl x) :: (.inr (.inr o)) :: st' => if H.2.2.1 o = (1, a) then k nx ls st' (setM H (up2 H.2.2.2.2 o (b : Int) x)) else none
  | _ => none
def oPutZ : XO := fun nx a b _ _ _ k _ ls st H => match st with
  | (.inl x) :: (.inr (.inr o)) :: st' => if H.2.2.1 o = (1, a) ∧ (x = 0 ∨ x = 1) then k nx ls st' (setM H (up2 H.2.2.2.2 o (b : Int) x)) else none
  | _ => none
def oPutL : XO := fun nx a b _ _ _ k _ ls st H => match st with
  | (.inr (.inl x)) :: (.inr (.inr o)) :: st' => if H.2.2.1 o = (1, a) then k nx ls st' (setM H (up2 H.2.2.2.2 o (b : Int) x)) else none
  | _ => none
def oPutR : XO := fun nx a b _ _ _ k _ ls st H => match st with
  | (.inr (.inr q)) :: (.inr (.inr o)) :: st' => if H.2.2.1 o = (1, a) ∧ 32 ≤ q then k nx ls st' (setR H (upr H.2.2.2.1 o b q)) else none
  | _ => none
-- texts: value, coder
def oStrV : XO := fun nx _ _ _ _ _ k _ ls st H => match st with
  | (.inr (.inr o)) :: st' => if 6 ≤ o ∧ o < 19 then k nx ls (vR (o + 13) :: st') H else none
  | _ => none
def oStrC : XO := fun nx _ _ _ _ _ k _ ls st H => match st with
  | (.inr (.inr o)) :: st' => if 6 ≤ o ∧ o < 19 then k nx ls (vI 0 :: st') H else none
  | _ => none
-- arrays
def inB (i : Int) (n : Nat) : Prop := 0 ≤ i ∧ i < (n : Int)
def oIald : XO := fun nx _ _ _ _ _ k _ ls st H => match st with
  | (.inl i) :: (.inr (.inr o)) :: st' =>
    if (H.2.2.1 o).1 = 2 ∧ 0 ≤ i ∧ i < ((H.2.2.1 o).2 : Int) then k nx ls (vI (H.2.2.2.2 o i) :: st') H
    else if (o = 2 ∧ 0 ≤ i ∧ i < 7) ∨ (o = 4 ∧ 0 ≤ i ∧ i < 21) then k nx ls (vI (zTab o i) :: st') H
    else if o = 1 ∧ 0 ≤ i ∧ i < H.2.2.2.2 1 (-1) then k nx ls (vI (H.2.2.2.2 1 i) :: st') H
    else none
  | _ => none
def oLald : XO := fun nx _ _ _ _ _ k _ ls st H => match st with
  | (.inl i) :: (.inr (.inr o)) :: st' => if o = 3 ∧ 0 ≤ i ∧ i < 8 then k nx ls (vL (zTab o i) :: st') H else none
  | _ => none
def zLen (o : Nat) : Nat := ((zStr[o - 19]?).getD []).length
def oBald : XO := fun nx _ _ _ _ _ k _ ls st H => match st with
  | (.inl i) :: (.inr (.inr o)) :: st' =>
    if (H.2.2.1 o).1 = 3 ∧ 0 ≤ i ∧ i < ((H.2.2.1 o).2 : Int) then k nx ls (vI (H.2.2.2.2 o i) :: st') H
    else if 19 ≤ o ∧ o < 32 ∧ 0 ≤ i ∧ i < (zLen o : Int) then k nx ls (vI (zTab o i) :: st') H
    else none
  | _ => none
def oIast : XO := fun nx _ _ _ _ _ k _ ls st H => match st with
  | (.inl x) :: (.inl i) :: (.inr (.inr o)) :: st' =>
    if (H.2.2.1 o).1 = 2 ∧ 0 ≤ i ∧ i < ((H.2.2.1 o).2 : Int) then k nx ls st' (setM H (up2 H.2.2.2.2 o i x)) else none
  | _ => none
def oBast : XO := fun nx _ _ _ _ _ k _ ls st H => match st with
  | (.inl x) :: (.inl i) :: (.inr (.inr o)) :: st' =>
    if (H.2.2.1 o).1 = 3 ∧ 0 ≤ i ∧ i < ((H.2.2.1 o).2 : Int) ∧ (x = 0 ∨ x = 1) then k nx ls st' (setM H (up2 H.2.2.2.2 o i x)) else none
  | _ => none
def oAlen : XO := fun nx _ _ _ _ _ k _ ls st H => match st with
  | (.inr (.inr o)) :: st' =>
    if (H.2.2.1 o).1 = 2 ∨ (H.2.2.1 o).1 = 3 then k nx ls (vI ((H.2.2.1 o).2 : Int) :: st') H
    else if o = 1 then k nx ls (vI (H.2.2.2.2 1 (-1)) :: st') H
    else if 19 ≤ o ∧ o < 32 then k nx ls (vI (zLen o : Int) :: st') H
    else none
  | _ => none
def newC (H : XH) (t : Nat × Nat) (sl : Nat) : XH := (H.1 + 1, H.2.1 + sl, up1 H.2.2.1 (32 + H.1) t, H.2.2.2.1, H.2.2.2.2)
def oNewA : XO := fun nx a _ _ _ _ k _ ls st H => match st with
  | (.inl x) :: st' => if 0 ≤ x ∧ x < 100000 then k nx ls (vR (32 + H.1) :: st') (newC H (a, x.toNat) x.toNat) else none
  | _ => none
def oNew : XO := fun nx a _ _ _ _ k _ ls st H => k nx ls (vR (32 + H.1) :: st) (newC H (1, a) (zNf a))
def oStatR : XO := fun nx a _ _ _ _ k _ ls st H => k nx ls (vR a :: st) H
def recvOK (H : XH) (ow : Nat) : List XV → Bool
  | (.inr (.inr o)) :: _ => (decide (ow < 12) && decide (H.2.2.1 o = (1, ow))) || (decide (ow = 12) && decide (6 ≤ o ∧ o < 19))
  | _ => false
def catOf : XV → Nat
  | .inr (.inl _) => 2
  | _ => 1
def catSum (st : List XV) : Nat := (st.map catOf).sum
def oCall : XO := fun nx a b v _ C k d ls st H =>
  if st.length < b ∨ 8 < catSum (st.drop b) ∨ zMaxAt a < (flat (st.take b).reverse).length ∨ (¬ v = 0 ∧ recvOK H (zOwAt a) (st.take b).reverse = false) then none else
  match d with
  | 0 => none
  | d' + 1 => match C d' a (st.take b).reverse H with
    | some (r, H') => k nx ls (r.toList ++ st.drop b) H'
    | none => none
def oObj : XO := fun nx _ _ _ _ _ k d ls st H => match st with
  | (.inr (.inr o)) :: st' => if d = 0 ∨ o < 32 ∨ 8 < catSum st' then none else k nx ls st' H
  | _ => none
def oCopy : XO := fun nx _ _ _ _ _ k d ls st H => match st with
  | (.inl n) :: (.inl dp) :: (.inr (.inr dd)) :: (.inl sp) :: (.inr (.inr ss)) :: st' =>
    if d ≠ 0 ∧ st' = [] ∧ ss ≠ dd ∧ ((H.2.2.1 ss).1 = 2 ∨ (H.2.2.1 ss).1 = 3) ∧ (H.2.2.1 dd).1 = (H.2.2.1 ss).1 ∧ 0 ≤ n ∧ 0 ≤ sp ∧ 0 ≤ dp ∧ sp + n ≤ ((H.2.2.1 ss).2 : Int) ∧ dp + n ≤ ((H.2.2.1 dd).2 : Int)
    then k nx ls st' (setM H (upc H.2.2.2.2 ss sp dd dp n)) else none
  | _ => none
def oRetI : XO := fun _ _ b _ _ _ _ _ _ st H => match st with
  | [.inl x] => if b = 0 ∨ (b = 1 ∧ (x = 0 ∨ x = 1)) ∨ (b = 2 ∧ 0 ≤ x ∧ x < 65536) ∨ (b = 3 ∧ -128 ≤ x ∧ x < 128) then some (some (vI x), H) else none
  | _ => none
def oRetL : XO := fun _ _ _ _ _ _ _ _ _ st H => match st with
  | [.inr (.inl x)] => some (some (vL x), H)
  | _ => none
def oRetV : XO := fun _ _ _ _ _ _ _ _ _ st H => match st with
  | [] => some (none, H)
  | _ => none
def oSwitch : XO := fun _ a _ _ l _ k _ ls st H => match st with
  | (.inl x) :: st' => k ((l.lookup x).getD a) ls st' H
  | _ => none
def oMath (f : Int → Int → Int) : XO := fun nx _ _ _ _ _ k d ls st H => match st with
  | (.inl y) :: (.inl x) :: st' => if d = 0 ∨ 8 < catSum st' then none else k nx ls (vI (f x y) :: st') H
  | _ => none
def oMathL (f : Int → Int → Int) : XO := fun nx _ _ _ _ _ k d ls st H => match st with
  | (.inr (.inl y)) :: (.inr (.inl x)) :: st' => if d = 0 ∨ 8 < catSum st' then none else k nx ls (vL (f x y) :: st') H
  | _ => none
def iMax (x y : Int) : Int := if x < y then y else x
def iMin (x y : Int) : Int := if y < x then y else x
def lMax (x y : Int) : Int := if y < x then x else y
def zOps : List XO := [oBad, oPushI, oPushL, oLoadI, oLoadA, oLoadL, oStoreI, oStoreA, oStoreL, oIinc,
  oBin (fun x y => w32 (x + y)), oBin (fun x y => w32 (x - y)), oBin (fun x y => w32 (x * y)), oDivI iDiv, oDivI iRem, oUn (fun x => w32 (-x)), oBin iAnd, oBin iOr, oBin iXor, oBin iShl, oBin iShr,
  oBinL (fun x y => w64 (x + y)), oBinL (fun x y => w64 (x - y)), oBinL (fun x y => w64 (x * y)), oDivL lDiv, oDivL lRem, oLcmp, oI2l, oUn i2C, oUn i2B, oGoto,
  oIf (fun x => decide (x = 0)), oIf (fun x => decide (x ≠ 0)), oIf (fun x => decide (x < 0)), oIf (fun x => decide (0 ≤ x)), oIf (fun x => decide (0 < x)), oIf (fun x => decide (x ≤ 0)),
  oIfc (fun x y => decide (x = y)), oIfc (fun x y => decide (x ≠ y)), oIfc (fun x y => decide (x < y)), oIfc (fun x y => decide (y ≤ x)), oIfc (fun x y => decide (y < x)), oIfc (fun x y => decide (x ≤ y)),
  oDup, oDupX1, oDup2, oPop, oGetI, oGetL, oGetR, oPutI, oPutZ, oPutL, oPutR, oStrV, oStrC, oIald, oLald, oBald, oIast, oBast, oAlen, oNewA, oNew, oStatR, oCall, oObj, oCopy, oRetI, oRetL, oRetV, oSwitch, oMath iMax, oMath iMin, oMathL lMax]
def zStep (i : XI) : XC → XK → Nat → List XV → List XV → XH → XR := ((zOps[i.1]?).getD oBad) i.2.1 i.2.2.1 i.2.2.2.1 i.2.2.2.2.1 i.2.2.2.2.2
-- ===== what an instruction of the listing is here =====
def xBad : XI := (0, 0, 0, 0, 0, [])
def xIf (b : Bool) (x : XI) : XI := if b = true then x else xBad
def tgt (pc : Nat) (off : Int) : Nat := ((pc : Int) + off).toNat
def xJ (op pc n : Nat) (len : Nat) (off : Int) : XI := xIf (decide (len = n) && decide (0 ≤ (pc : Int) + off)) (op, pc + n, tgt pc off, 0, 0, [])
def x0 (op pc n len : Nat) : XI := xIf (decide (len = n)) (op, pc + n, 0, 0, 0, [])
def xa (op pc n len a : Nat) : XI := xIf (decide (len = n)) (op, pc + n, a, 0, 0, [])
def xv (op pc n len : Nat) (v : Int) : XI := xIf (decide (len = n)) (op, pc + n, 0, 0, v, [])
def fF (o i : Nat) : Option (Nat × Nat) := (zF.find? (fun q => q.1 == o && q.2.1 == i)).map (fun q => q.2.2)
def fM (o i : Nat) : Option (Nat × Nat × Int) := (zM.find? (fun q => q.1 == o && q.2.1 == i)).map (fun q => q.2.2)
def f3 {α : Type} (l : List (Nat × Nat × α)) (o i : Nat) : Option α := (l.find? (fun q => q.1 == o && q.2.1 == i)).map (fun q => q.2.2)
def zIsInit (mid : Nat) : Bool := (zNamAt mid).name == "<init>"
def xGet (o pc i : Nat) : XI := match fF o i with
  | some (c, k) =>
    if c = 12 then (if k = 0 then (54, pc + 3, 0, 0, 0, []) else (55, pc + 3, 0, 0, 0, []))
    else if zKkAt c k < 2 then (47, pc + 3, c, k, 0, []) else if zKkAt c k = 2 then (48, pc + 3, c, k, 0, []) else if zKkAt c k = 3 then (49, pc + 3, c, k, 0, []) else xBad
  | none => xBad
def xPut (mid o pc i : Nat) : XI := match fF o i with
  | some (c, k) =>
    if 12 ≤ c ∨ (zFinAt c k = 1 ∧ (zIsInit mid = false ∨ o ≠ c)) then xBad else
    if zKkAt c k < 4 then (50 + zKkAt c k, pc + 3, c, k, zFinAt c k, []) else xBad
  | none => xBad
def xInv (o pc i : Nat) (sp : Nat) : XI := match fM o i with
  | some (y, n, kd) =>
    if kd = 10 ∨ kd = 11 ∨ kd = 12 then (if sp = 0 then (62 + kd.toNat, pc + 3, 0, 0, 0, []) else xBad)
    else if kd = 9 then (if sp = 2 then (66, pc + 3, 0, 0, 0, []) else xBad)
    else if kd = 8 then (if sp = 0 then (67, pc + 3, 0, 0, 0, []) else xBad)
    else if kd = 3 then (if sp = 2 then (65, pc + 3, y, n, 3, []) else xBad)
    else if kd = (sp : Int) then (65, pc + 3, y, n, kd, []) else xBad
  | none => xBad
def xSt (o pc i : Nat) : XI := match f3 zS o i with
  | some r => if r = 0 then (1, pc + 3, 0, 0, 1, []) else (64, pc + 3, r, 0, 0, [])
  | none => xBad
def xLdc (o pc i : Nat) : XI := match f3 zT o i with
  | some r => (64, pc + 2, r, 0, 0, [])
  | none => match f3 zK o i with
    | some v => (1, pc + 2, 0, 0, v, [])
    | none => xBad
def zRes (mid pc : Nat) (ins : Instr) (len : Nat) : XI := match ins with
  | .iconst v => xv 1 pc 1 len (Int32.ofInt v).toInt
  | .bipush v => xv 1 pc 2 len (Int8.ofInt v).toInt
  | .sipush v => xv 1 pc 3 len (Int16.ofInt v).toInt
  | .lconst v => xv 2 pc 1 len (v.val : Int)
  | .ldc i => xIf (decide (len = 2)) (xLdc (zOwAt mid) pc i)
  | .ldc_w i => match f3 zK (zOwAt mid) i with
    | some v => xv 1 pc 3 len v
    | none => xBad
  | .ldc2_w i => match f3 zL (zOwAt mid) i with
    | some v => xv 2 pc 3 len v
    | none => xBad
  | .iload i => xa 3 pc 2 len i
  | .iload_n i => xa 3 pc 1 len i.val
  | .aload i => xa 4 pc 2 len i
  | .aload_n i => xa 4 pc 1 len i.val
  | .lload i => xa 5 pc 2 len i
  | .lload_n i => xa 5 pc 1 len i.val
  | .istore i => xa 6 pc 2 len i
  | .istore_n i => xa 6 pc 1 len i.val
  | .astore i => xa 7 pc 2 len i
  | .astore_n i => xa 7 pc 1 len i.val
  | .lstore i => xa 8 pc 2 len i
  | .lstore_n i => xa 8 pc 1 len i.val
  | .iinc i v => xIf (decide (len = 3)) (9, pc + 3, i, 0, v, [])
  | .iadd => x0 10 pc 1 len
  | .isub => x0 11 pc 1 len
  | .imul => x0 12 pc 1 len
  | .idiv => x0 13 pc 1 len
  | .irem => x0 14 pc 1 len
  | .ineg => x0 15 pc 1 len
  | .iand => x0 16 pc 1 len
  | .ior => x0 17 pc 1 len
  | .ixor => x0 18 pc 1 len
  | .ishl => x0 19 pc 1 len
  | .ishr => x0 20 pc 1 len
  | .ladd => x0 21 pc 1 len
  | .lsub => x0 22 pc 1 len
  | .lmul => x0 23 pc 1 len
  | .ldiv => x0 24 pc 1 len
  | .lrem => x0 25 pc 1 len
  | .lcmp => x0 26 pc 1 len
  | .i2l => x0 27 pc 1 len
  | .i2c => x0 28 pc 1 len
  | .i2b => x0 29 pc 1 len
  | .goto off => xJ 30 pc 3 len off
  | .ifCond cd off => xJ (match cd with | .eq => 31 | .ne => 32 | .lt => 33 | .ge => 34 | .gt => 35 | .le => 36) pc 3 len off
  | .if_icmp cd off => xJ (match cd with | .eq => 37 | .ne => 38 | .lt => 39 | .ge => 40 | .gt => 41 | .le => 42) pc 3 len off
  | .dup => x0 43 pc 1 len
  | .dup_x1 => x0 44 pc 1 len
  | .dup2 => x0 45 pc 1 len
  | .pop => x0 46 pc 1 len
  | .getfield i => xIf (decide (len = 3)) (xGet (zOwAt mid) pc i)
  | .putfield i => xIf (decide (len = 3)) (xPut mid (zOwAt mid) pc i)
  | .iaload => x0 56 pc 1 len
  | .laload => x0 57 pc 1 len
  | .baload => x0 58 pc 1 len
  | .iastore => x0 59 pc 1 len
  | .bastore => x0 60 pc 1 len
  | .arraylength => x0 61 pc 1 len
  | .newarray .int => xa 62 pc 2 len 2
  | .newarray .boolean => xa 62 pc 2 len 3
  | .new i => match f3 zC (zOwAt mid) i with
    | some c => xa 63 pc 3 len c
    | none => xBad
  | .getstatic i => xIf (decide (len = 3)) (xSt (zOwAt mid) pc i)
  | .invokestatic i => xIf (decide (len = 3)) (xInv (zOwAt mid) pc i 0)
  | .invokevirtual i => xIf (decide (len = 3)) (xInv (zOwAt mid) pc i 1)
  | .invokespecial i => xIf (decide (len = 3)) (xInv (zOwAt mid) pc i 2)
  | .ireturn => xIf (decide (len = 1)) (68, 0, 0, zRcAt mid, 0, [])
  | .lreturn => xIf (decide (len = 1) && decide (zRcAt mid = 8)) (69, pc + 1, 0, 0, 0, [])
  | .return_ => xIf (decide (len = 1) && decide (zRcAt mid = 9)) (70, pc + 1, 0, 0, 0, [])
  | .tableswitch dflt lo hi offs => xIf (decide (0 ≤ (pc : Int) + dflt) && offs.toList.all (fun f => decide (0 ≤ (pc : Int) + f)) && decide ((offs.size : Int) = hi - lo + 1)) (71, 0, tgt pc dflt, len, 0, offs.toList.zipIdx.map (fun q => (lo + (q.2 : Int), tgt pc q.1)))
  | .lookupswitch dflt ps => xIf (decide (0 ≤ (pc : Int) + dflt) && ps.toList.all (fun f => decide (0 ≤ (pc : Int) + f.2)) && (ps.toList.zip (ps.toList.drop 1)).all (fun (a, next) => a.1 < next.1)) (71, 0, tgt pc dflt, len, 0, ps.toList.map (fun q => (q.1, tgt pc q.2)))
  | _ => xBad
def zA (mid pc : Nat) : XI := match decode (zCodAt mid) pc with
  | .ok (ins, len) => zRes mid pc ins len
  | .error _ => xBad
-- ===== the run: n steps at most, d calls open at most =====
def ev : Nat → Nat → Nat → Nat → List XV → List XV → XH → XR
  | 0, _, _, _, _, _, _ => none
  | n + 1, d, mid, pc, ls, st, H => zStep (zA mid pc) (fun d' y as H' => ev n d' y 0 (entryL y as) [] H') (fun pc' ls' st' H' => ev n d mid pc' ls' st' H') d ls st H
