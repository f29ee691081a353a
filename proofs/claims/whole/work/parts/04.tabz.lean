/-! ===== tables, laid by wip/whole/gen_tab.py out of the decode rows that are printed for the claim ===== -/
abbrev m_Asker_init : Nat := 0
abbrev m_Asker_turnTo : Nat := 1
abbrev m_Asker_tellLast : Nat := 2
abbrev m_Asker_valueOf : Nat := 3
abbrev m_Asker_join : Nat := 4
abbrev m_Hands_init : Nat := 5
abbrev m_Hands_forget : Nat := 6
abbrev m_Hands_lookAt : Nat := 7
abbrev m_Hands_canHold : Nat := 8
abbrev m_Hands_waysOfAll : Nat := 9
abbrev m_Hands_firstBarred : Nat := 10
abbrev m_Hands_coreAt : Nat := 11
abbrev m_Hands_reached : Nat := 12
abbrev m_Hands_spread : Nat := 13
abbrev m_Hands_spreadWays : Nat := 14
abbrev m_Hands_farFrom : Nat := 15
abbrev m_Hands_allowedFor : Nat := 16
abbrev m_Hands_setsFor : Nat := 17
abbrev m_Hands_handsSuffice : Nat := 18
abbrev m_Hands_isTogether : Nat := 19
abbrev m_Light_init : Nat := 20
abbrev m_Light_project : Nat := 21
abbrev m_Light_rowOf : Nat := 22
abbrev m_Light_rowOfAll : Nat := 23
abbrev m_Light_cellsInBoth : Nat := 24
abbrev m_Light_hiddenCells : Nat := 25
abbrev m_Light_blur : Nat := 26
abbrev m_Maker_init : Nat := 27
abbrev m_Maker_forget : Nat := 28
abbrev m_Maker_solve : Nat := 29
abbrev m_Maker_wayCount : Nat := 30
abbrev m_Maker_tellOf : Nat := 31
abbrev m_Maker_gatherCast : Nat := 32
abbrev m_Maker_trySet : Nat := 33
abbrev m_Maker_isBetter : Nat := 34
abbrev m_Maker_choose : Nat := 35
abbrev m_Maker_trySingle : Nat := 36
abbrev m_Maker_tryPair : Nat := 37
abbrev m_Maker_tryTriple : Nat := 38
abbrev m_Maker_rarestCell : Nat := 39
abbrev m_Maker_countBeside : Nat := 40
abbrev m_Maker_keepFirst : Nat := 41
abbrev m_Maker_countFilling : Nat := 42
abbrev m_Planner_init : Nat := 43
abbrev m_Planner_findLeast : Nat := 44
abbrev m_Planner_holderAt : Nat := 45
abbrev m_Planner_passesOf : Nat := 46
abbrev m_Planner_holderOf : Nat := 47
abbrev m_Planner_sizeOf : Nat := 48
abbrev m_Planner_costAt : Nat := 49
abbrev m_Planner_fillCosts : Nat := 50
abbrev m_Planner_carryBack : Nat := 51
abbrev m_Planner_mix : Nat := 52
abbrev m_Planner_either : Nat := 53
abbrev m_Planner_keepHoldings : Nat := 54
abbrev m_Planner_give : Nat := 55
abbrev m_Planner_sumUp : Nat := 56
abbrev m_Planner_followFirst : Nat := 57
abbrev m_Planner_passTo : Nat := 58
abbrev m_Prints_init : Nat := 59
abbrev m_Prints_gather : Nat := 60
abbrev m_Prints_staysWithin : Nat := 61
abbrev m_Prints_maskAt : Nat := 62
abbrev m_Prints_add : Nat := 63
abbrev m_Reader_init : Nat := 64
abbrev m_Reader_readText : Nat := 65
abbrev m_Reader_tellMoves : Nat := 66
abbrev m_Reader_readClause : Nat := 67
abbrev m_Reader_readMove : Nat := 68
abbrev m_Reader_readLevel : Nat := 69
abbrev m_Reader_operationAt : Nat := 70
abbrev m_Reader_readPlain : Nat := 71
abbrev m_Reader_readComparison : Nat := 72
abbrev m_Reader_readWithin : Nat := 73
abbrev m_Reader_readPart : Nat := 74
abbrev m_Reader_fail : Nat := 75
abbrev m_Reader_take : Nat := 76
abbrev m_Reader_takeNumber : Nat := 77
abbrev m_Reader_advance : Nat := 78
abbrev m_Reader_wordBetween : Nat := 79
abbrev m_Scene_init : Nat := 80
abbrev m_Scene_has : Nat := 81
abbrev m_Scene_isOn : Nat := 82
abbrev m_Scene_depth : Nat := 83
abbrev m_Scene_onBits : Nat := 84
abbrev m_Scene_put : Nat := 85
abbrev m_Scene_stays : Nat := 86
abbrev m_Scene_toldCells : Nat := 87
abbrev m_Scene_takeFrom : Nat := 88
abbrev m_Script_init : Nat := 89
abbrev m_Script_clear : Nat := 90
abbrev m_Script_add : Nat := 91
abbrev m_Script_jumpToHere : Nat := 92
abbrev m_Script_startLaw : Nat := 93
abbrev m_Script_startTest : Nat := 94
abbrev m_Script_endLaw : Nat := 95
abbrev m_Script_takeFrom : Nat := 96
abbrev m_Target_init : Nat := 97
abbrev m_Target_lookAt : Nat := 98
abbrev m_Target_lookFrom : Nat := 99
abbrev m_Cp_init : Nat := 100
abbrev m_Cp_figure : Nat := 101
abbrev m_Cp_sticks : Nat := 102
abbrev m_Cp_terms : Nat := 103
abbrev m_Cp_on : Nat := 104
abbrev m_Cp_off : Nat := 105
abbrev m_Cp_of : Nat := 106
abbrev m_Cp_feed : Nat := 107
abbrev m_Cp_end : Nat := 108
abbrev m_Cp_row : Nat := 109
abbrev m_Cp_torn : Nat := 110
abbrev m_Cp_outline : Nat := 111
abbrev m_Cp_play : Nat := 112
abbrev m_Cp_fault : Nat := 113
abbrev m_Cp_shadow : Nat := 114
abbrev m_Cp_seen : Nat := 115
abbrev m_Cp_common : Nat := 116
abbrev m_Cp_holds : Nat := 117
abbrev m_Cp_holdings : Nat := 118
abbrev m_Cp_least : Nat := 119
abbrev m_Cp_holder : Nat := 120
abbrev m_Cp_passed : Nat := 121
abbrev m_Cp_fewest : Nat := 122
abbrev m_Cp_barred : Nat := 123
abbrev m_Cp_made : Nat := 124
abbrev m_Cp_who : Nat := 125
abbrev m_Cp_sheet : Nat := 126
abbrev m_Cp_copy : Nat := 127
abbrev m_Cp_show : Nat := 128
abbrev m_Cp_slipped : Nat := 129
abbrev m_Cp_image : Nat := 130
abbrev m_Cp_back : Nat := 131
abbrev m_Cp_count : Nat := 132
abbrev m_Cp_status : Nat := 133
abbrev m_Cp_isBeat : Nat := 134
abbrev m_Cp_refuse : Nat := 135
abbrev m_Cp_accept : Nat := 136
abbrev m_Cp_changeHands : Nat := 137
abbrev m_Cp_changeCast : Nat := 138
abbrev m_Cp_canBeAsked : Nat := 139
abbrev m_Cp_writeWord : Nat := 140
abbrev m_Cp_takeOutline : Nat := 141
abbrev m_Cp_takeSheet : Nat := 142
abbrev m_Cp_countBeats : Nat := 143
abbrev m_Mo_init : Nat := 144
abbrev m_Mo_in : Nat := 145
abbrev m_Mo_is : Nat := 146
abbrev m_Mo_tell : Nat := 147
abbrev m_Mo_was : Nat := 148
abbrev m_Mo_change : Nat := 149
abbrev m_Mo_image : Nat := 150
abbrev m_Mo_back : Nat := 151
abbrev m_Mo_isFigure : Nat := 152
abbrev m_Mo_isBeat : Nat := 153
abbrev m_Mo_term : Nat := 154
abbrev m_Mo_placeOf : Nat := 155
abbrev m_Mo_isOn : Nat := 156
abbrev m_Mo_deepOf : Nat := 157
abbrev m_Mo_figure : Nat := 158
abbrev m_Mo_sticks : Nat := 159
abbrev m_Mo_isTerm : Nat := 160
abbrev m_Mo_terms : Nat := 161
abbrev m_Mo_put : Nat := 162
abbrev m_Mo_on : Nat := 163
abbrev m_Mo_off : Nat := 164
abbrev m_Mo_of : Nat := 165
abbrev m_Mo_bits : Nat := 166
abbrev m_Mo_row : Nat := 167
abbrev m_Mo_torn : Nat := 168
abbrev m_Mo_outline : Nat := 169
abbrev m_Mo_sheet : Nat := 170
abbrev m_Mo_four : Nat := 171
abbrev m_Mo_feed : Nat := 172
abbrev m_Mo_end : Nat := 173
abbrev m_Mo_isSmall : Nat := 174
abbrev m_Mo_isDigit : Nat := 175
abbrev m_Mo_begin : Nat := 176
abbrev m_Mo_next : Nat := 177
abbrev m_Mo_isWord : Nat := 178
abbrev m_Mo_isSign : Nat := 179
abbrev m_Mo_must : Nat := 180
abbrev m_Mo_number : Nat := 181
abbrev m_Mo_fault : Nat := 182
abbrev m_Mo_emit : Nat := 183
abbrev m_Mo_push : Nat := 184
abbrev m_Mo_binds : Nat := 185
abbrev m_Mo_settle : Nat := 186
abbrev m_Mo_inner : Nat := 187
abbrev m_Mo_isCompared : Nat := 188
abbrev m_Mo_partAt : Nat := 189
abbrev m_Mo_openBracket : Nat := 190
abbrev m_Mo_leaf : Nat := 191
abbrev m_Mo_readPart : Nat := 192
abbrev m_Mo_readPlain : Nat := 193
abbrev m_Mo_behindSum : Nat := 194
abbrev m_Mo_behindTest : Nat := 195
abbrev m_Mo_readExpression : Nat := 196
abbrev m_Mo_readBeat : Nat := 197
abbrev m_Mo_readClause : Nat := 198
abbrev m_Mo_play : Nat := 199
abbrev m_Mo_reckon : Nat := 200
abbrev m_Mo_reckonAll : Nat := 201
abbrev m_Mo_isSo : Nat := 202
abbrev m_Mo_tells : Nat := 203
abbrev m_Mo_shadowRow : Nat := 204
abbrev m_Mo_allRow : Nat := 205
abbrev m_Mo_shadow : Nat := 206
abbrev m_Mo_seen : Nat := 207
abbrev m_Mo_common : Nat := 208
abbrev m_Mo_copy : Nat := 209
abbrev m_Mo_canHold : Nat := 210
abbrev m_Mo_isNear : Nat := 211
abbrev m_Mo_isStill : Nat := 212
abbrev m_Mo_onBits : Nat := 213
abbrev m_Mo_holds : Nat := 214
abbrev m_Mo_findCan : Nat := 215
abbrev m_Mo_holderIn : Nat := 216
abbrev m_Mo_isHolding : Nat := 217
abbrev m_Mo_holdingsOf : Nat := 218
abbrev m_Mo_holdings : Nat := 219
abbrev m_Mo_findLeast : Nat := 220
abbrev m_Mo_reckonBeat : Nat := 221
abbrev m_Mo_backFigure : Nat := 222
abbrev m_Mo_passedBetween : Nat := 223
abbrev m_Mo_findFirst : Nat := 224
abbrev m_Mo_least : Nat := 225
abbrev m_Mo_holder : Nat := 226
abbrev m_Mo_passed : Nat := 227
abbrev m_Mo_fewest : Nat := 228
abbrev m_Mo_barred : Nat := 229
abbrev m_Mo_findCells : Nat := 230
abbrev m_Mo_findShadows : Nat := 231
abbrev m_Mo_tryPlace : Nat := 232
abbrev m_Mo_findMade : Nat := 233
abbrev m_Mo_maskAt : Nat := 234
abbrev m_Mo_goOver : Nat := 235
abbrev m_Mo_take : Nat := 236
abbrev m_Mo_isCast : Nat := 237
abbrev m_Mo_made : Nat := 238
abbrev m_Mo_who : Nat := 239
abbrev m_Mo_show : Nat := 240
abbrev m_Mo_slipped : Nat := 241
abbrev m_Mo_count : Nat := 242
abbrev m_Mo_status : Nat := 243
abbrev m_J_ntzI : Nat := 244
abbrev m_J_bitI : Nat := 245
abbrev m_J_ntzL : Nat := 246
abbrev m_J_bitL : Nat := 247
abbrev m_J_rng : Nat := 248
abbrev m_J_fillL : Nat := 249
abbrev m_J_fillLr : Nat := 250
abbrev m_J_fillI : Nat := 251
abbrev m_J_fillIr : Nat := 252
abbrev m_law : Nat := 253
def aTbs (n : Nat) : List (Nat × aI) := a_sel 254 n [] (a_sel 127 n
  (a_sel 190 n
  (a_sel 222 n
  (a_sel 238 n
  (a_sel 246 n
  (a_sel 250 n
  (a_sel 252 n
  (a_sel 253 n
  tb_law
  tb_J_fillIr)
  (a_sel 251 n
  tb_J_fillI
  tb_J_fillLr))
  (a_sel 248 n
  (a_sel 249 n
  tb_J_fillL
  tb_J_rng)
  (a_sel 247 n
  tb_J_bitL
  tb_J_ntzL)))
  (a_sel 242 n
  (a_sel 244 n
  (a_sel 245 n
  tb_J_bitI
  tb_J_ntzI)
  (a_sel 243 n
  tb_Mo_status
  tb_Mo_count))
  (a_sel 240 n
  (a_sel 241 n
  tb_Mo_slipped
  tb_Mo_show)
  (a_sel 239 n
  tb_Mo_who
  tb_Mo_made))))
  (a_sel 230 n
  (a_sel 234 n
  (a_sel 236 n
  (a_sel 237 n
  tb_Mo_isCast
  tb_Mo_take)
  (a_sel 235 n
  tb_Mo_goOver
  tb_Mo_maskAt))
  (a_sel 232 n
  (a_sel 233 n
  tb_Mo_findMade
  tb_Mo_tryPlace)
  (a_sel 231 n
  tb_Mo_findShadows
  tb_Mo_findCells)))
  (a_sel 226 n
  (a_sel 228 n
  (a_sel 229 n
  tb_Mo_barred
  tb_Mo_fewest)
  (a_sel 227 n
  tb_Mo_passed
  tb_Mo_holder))
  (a_sel 224 n
  (a_sel 225 n
  tb_Mo_least
  tb_Mo_findFirst)
  (a_sel 223 n
  tb_Mo_passedBetween
  tb_Mo_backFigure)))))
  (a_sel 206 n
  (a_sel 214 n
  (a_sel 218 n
  (a_sel 220 n
  (a_sel 221 n
  tb_Mo_reckonBeat
  tb_Mo_findLeast)
  (a_sel 219 n
  tb_Mo_holdings
  tb_Mo_holdingsOf))
  (a_sel 216 n
  (a_sel 217 n
  tb_Mo_isHolding
  tb_Mo_holderIn)
  (a_sel 215 n
  tb_Mo_findCan
  tb_Mo_holds)))
  (a_sel 210 n
  (a_sel 212 n
  (a_sel 213 n
  tb_Mo_onBits
  tb_Mo_isStill)
  (a_sel 211 n
  tb_Mo_isNear
  tb_Mo_canHold))
  (a_sel 208 n
  (a_sel 209 n
  tb_Mo_copy
  tb_Mo_common)
  (a_sel 207 n
  tb_Mo_seen
  tb_Mo_shadow))))
  (a_sel 198 n
  (a_sel 202 n
  (a_sel 204 n
  (a_sel 205 n
  tb_Mo_allRow
  tb_Mo_shadowRow)
  (a_sel 203 n
  tb_Mo_tells
  tb_Mo_isSo))
  (a_sel 200 n
  (a_sel 201 n
  tb_Mo_reckonAll
  tb_Mo_reckon)
  (a_sel 199 n
  tb_Mo_play
  tb_Mo_readClause)))
  (a_sel 194 n
  (a_sel 196 n
  (a_sel 197 n
  tb_Mo_readBeat
  tb_Mo_readExpression)
  (a_sel 195 n
  tb_Mo_behindTest
  tb_Mo_behindSum))
  (a_sel 192 n
  (a_sel 193 n
  tb_Mo_readPlain
  tb_Mo_readPart)
  (a_sel 191 n
  tb_Mo_leaf
  tb_Mo_openBracket))))))
  (a_sel 158 n
  (a_sel 174 n
  (a_sel 182 n
  (a_sel 186 n
  (a_sel 188 n
  (a_sel 189 n
  tb_Mo_partAt
  tb_Mo_isCompared)
  (a_sel 187 n
  tb_Mo_inner
  tb_Mo_settle))
  (a_sel 184 n
  (a_sel 185 n
  tb_Mo_binds
  tb_Mo_push)
  (a_sel 183 n
  tb_Mo_emit
  tb_Mo_fault)))
  (a_sel 178 n
  (a_sel 180 n
  (a_sel 181 n
  tb_Mo_number
  tb_Mo_must)
  (a_sel 179 n
  tb_Mo_isSign
  tb_Mo_isWord))
  (a_sel 176 n
  (a_sel 177 n
  tb_Mo_next
  tb_Mo_begin)
  (a_sel 175 n
  tb_Mo_isDigit
  tb_Mo_isSmall))))
  (a_sel 166 n
  (a_sel 170 n
  (a_sel 172 n
  (a_sel 173 n
  tb_Mo_end
  tb_Mo_feed)
  (a_sel 171 n
  tb_Mo_four
  tb_Mo_sheet))
  (a_sel 168 n
  (a_sel 169 n
  tb_Mo_outline
  tb_Mo_torn)
  (a_sel 167 n
  tb_Mo_row
  tb_Mo_bits)))
  (a_sel 162 n
  (a_sel 164 n
  (a_sel 165 n
  tb_Mo_of
  tb_Mo_off)
  (a_sel 163 n
  tb_Mo_on
  tb_Mo_put))
  (a_sel 160 n
  (a_sel 161 n
  tb_Mo_terms
  tb_Mo_isTerm)
  (a_sel 159 n
  tb_Mo_sticks
  tb_Mo_figure)))))
  (a_sel 142 n
  (a_sel 150 n
  (a_sel 154 n
  (a_sel 156 n
  (a_sel 157 n
  tb_Mo_deepOf
  tb_Mo_isOn)
  (a_sel 155 n
  tb_Mo_placeOf
  tb_Mo_term))
  (a_sel 152 n
  (a_sel 153 n
  tb_Mo_isBeat
  tb_Mo_isFigure)
  (a_sel 151 n
  tb_Mo_back
  tb_Mo_image)))
  (a_sel 146 n
  (a_sel 148 n
  (a_sel 149 n
  tb_Mo_change
  tb_Mo_was)
  (a_sel 147 n
  tb_Mo_tell
  tb_Mo_is))
  (a_sel 144 n
  (a_sel 145 n
  tb_Mo_in
  tb_Mo_init)
  (a_sel 143 n
  tb_Cp_countBeats
  tb_Cp_takeSheet))))
  (a_sel 134 n
  (a_sel 138 n
  (a_sel 140 n
  (a_sel 141 n
  tb_Cp_takeOutline
  tb_Cp_writeWord)
  (a_sel 139 n
  tb_Cp_canBeAsked
  tb_Cp_changeCast))
  (a_sel 136 n
  (a_sel 137 n
  tb_Cp_changeHands
  tb_Cp_accept)
  (a_sel 135 n
  tb_Cp_refuse
  tb_Cp_isBeat)))
  (a_sel 130 n
  (a_sel 132 n
  (a_sel 133 n
  tb_Cp_status
  tb_Cp_count)
  (a_sel 131 n
  tb_Cp_back
  tb_Cp_image))
  (a_sel 128 n
  (a_sel 129 n
  tb_Cp_slipped
  tb_Cp_show)
  tb_Cp_copy))))))
  (a_sel 63 n
  (a_sel 95 n
  (a_sel 111 n
  (a_sel 119 n
  (a_sel 123 n
  (a_sel 125 n
  (a_sel 126 n
  tb_Cp_sheet
  tb_Cp_who)
  (a_sel 124 n
  tb_Cp_made
  tb_Cp_barred))
  (a_sel 121 n
  (a_sel 122 n
  tb_Cp_fewest
  tb_Cp_passed)
  (a_sel 120 n
  tb_Cp_holder
  tb_Cp_least)))
  (a_sel 115 n
  (a_sel 117 n
  (a_sel 118 n
  tb_Cp_holdings
  tb_Cp_holds)
  (a_sel 116 n
  tb_Cp_common
  tb_Cp_seen))
  (a_sel 113 n
  (a_sel 114 n
  tb_Cp_shadow
  tb_Cp_fault)
  (a_sel 112 n
  tb_Cp_play
  tb_Cp_outline))))
  (a_sel 103 n
  (a_sel 107 n
  (a_sel 109 n
  (a_sel 110 n
  tb_Cp_torn
  tb_Cp_row)
  (a_sel 108 n
  tb_Cp_end
  tb_Cp_feed))
  (a_sel 105 n
  (a_sel 106 n
  tb_Cp_of
  tb_Cp_off)
  (a_sel 104 n
  tb_Cp_on
  tb_Cp_terms)))
  (a_sel 99 n
  (a_sel 101 n
  (a_sel 102 n
  tb_Cp_sticks
  tb_Cp_figure)
  (a_sel 100 n
  tb_Cp_init
  tb_Target_lookFrom))
  (a_sel 97 n
  (a_sel 98 n
  tb_Target_lookAt
  tb_Target_init)
  (a_sel 96 n
  tb_Script_takeFrom
  tb_Script_endLaw)))))
  (a_sel 79 n
  (a_sel 87 n
  (a_sel 91 n
  (a_sel 93 n
  (a_sel 94 n
  tb_Script_startTest
  tb_Script_startLaw)
  (a_sel 92 n
  tb_Script_jumpToHere
  tb_Script_add))
  (a_sel 89 n
  (a_sel 90 n
  tb_Script_clear
  tb_Script_init)
  (a_sel 88 n
  tb_Scene_takeFrom
  tb_Scene_toldCells)))
  (a_sel 83 n
  (a_sel 85 n
  (a_sel 86 n
  tb_Scene_stays
  tb_Scene_put)
  (a_sel 84 n
  tb_Scene_onBits
  tb_Scene_depth))
  (a_sel 81 n
  (a_sel 82 n
  tb_Scene_isOn
  tb_Scene_has)
  (a_sel 80 n
  tb_Scene_init
  tb_Reader_wordBetween))))
  (a_sel 71 n
  (a_sel 75 n
  (a_sel 77 n
  (a_sel 78 n
  tb_Reader_advance
  tb_Reader_takeNumber)
  (a_sel 76 n
  tb_Reader_take
  tb_Reader_fail))
  (a_sel 73 n
  (a_sel 74 n
  tb_Reader_readPart
  tb_Reader_readWithin)
  (a_sel 72 n
  tb_Reader_readComparison
  tb_Reader_readPlain)))
  (a_sel 67 n
  (a_sel 69 n
  (a_sel 70 n
  tb_Reader_operationAt
  tb_Reader_readLevel)
  (a_sel 68 n
  tb_Reader_readMove
  tb_Reader_readClause))
  (a_sel 65 n
  (a_sel 66 n
  tb_Reader_tellMoves
  tb_Reader_readText)
  (a_sel 64 n
  tb_Reader_init
  tb_Prints_add))))))
  (a_sel 31 n
  (a_sel 47 n
  (a_sel 55 n
  (a_sel 59 n
  (a_sel 61 n
  (a_sel 62 n
  tb_Prints_maskAt
  tb_Prints_staysWithin)
  (a_sel 60 n
  tb_Prints_gather
  tb_Prints_init))
  (a_sel 57 n
  (a_sel 58 n
  tb_Planner_passTo
  tb_Planner_followFirst)
  (a_sel 56 n
  tb_Planner_sumUp
  tb_Planner_give)))
  (a_sel 51 n
  (a_sel 53 n
  (a_sel 54 n
  tb_Planner_keepHoldings
  tb_Planner_either)
  (a_sel 52 n
  tb_Planner_mix
  tb_Planner_carryBack))
  (a_sel 49 n
  (a_sel 50 n
  tb_Planner_fillCosts
  tb_Planner_costAt)
  (a_sel 48 n
  tb_Planner_sizeOf
  tb_Planner_holderOf))))
  (a_sel 39 n
  (a_sel 43 n
  (a_sel 45 n
  (a_sel 46 n
  tb_Planner_passesOf
  tb_Planner_holderAt)
  (a_sel 44 n
  tb_Planner_findLeast
  tb_Planner_init))
  (a_sel 41 n
  (a_sel 42 n
  tb_Maker_countFilling
  tb_Maker_keepFirst)
  (a_sel 40 n
  tb_Maker_countBeside
  tb_Maker_rarestCell)))
  (a_sel 35 n
  (a_sel 37 n
  (a_sel 38 n
  tb_Maker_tryTriple
  tb_Maker_tryPair)
  (a_sel 36 n
  tb_Maker_trySingle
  tb_Maker_choose))
  (a_sel 33 n
  (a_sel 34 n
  tb_Maker_isBetter
  tb_Maker_trySet)
  (a_sel 32 n
  tb_Maker_gatherCast
  tb_Maker_tellOf)))))
  (a_sel 15 n
  (a_sel 23 n
  (a_sel 27 n
  (a_sel 29 n
  (a_sel 30 n
  tb_Maker_wayCount
  tb_Maker_solve)
  (a_sel 28 n
  tb_Maker_forget
  tb_Maker_init))
  (a_sel 25 n
  (a_sel 26 n
  tb_Light_blur
  tb_Light_hiddenCells)
  (a_sel 24 n
  tb_Light_cellsInBoth
  tb_Light_rowOfAll)))
  (a_sel 19 n
  (a_sel 21 n
  (a_sel 22 n
  tb_Light_rowOf
  tb_Light_project)
  (a_sel 20 n
  tb_Light_init
  tb_Hands_isTogether))
  (a_sel 17 n
  (a_sel 18 n
  tb_Hands_handsSuffice
  tb_Hands_setsFor)
  (a_sel 16 n
  tb_Hands_allowedFor
  tb_Hands_farFrom))))
  (a_sel 7 n
  (a_sel 11 n
  (a_sel 13 n
  (a_sel 14 n
  tb_Hands_spreadWays
  tb_Hands_spread)
  (a_sel 12 n
  tb_Hands_reached
  tb_Hands_coreAt))
  (a_sel 9 n
  (a_sel 10 n
  tb_Hands_firstBarred
  tb_Hands_waysOfAll)
  (a_sel 8 n
  tb_Hands_canHold
  tb_Hands_lookAt)))
  (a_sel 3 n
  (a_sel 5 n
  (a_sel 6 n
  tb_Hands_forget
  tb_Hands_init)
  (a_sel 4 n
  tb_Asker_join
  tb_Asker_valueOf))
  (a_sel 1 n
  (a_sel 2 n
  tb_Asker_tellLast
  tb_Asker_turnTo)
  tb_Asker_init)))))))
def aInf (n : Nat) : MethodName × ByteArray × Nat × Option FieldType := a_sel 254 n (yL_law, cL_law, 0, none) (a_sel 127 n
  (a_sel 190 n
  (a_sel 222 n
  (a_sel 238 n
  (a_sel 246 n
  (a_sel 250 n
  (a_sel 252 n
  (a_sel 253 n
  (yL_law, cL_law, 4, (some .boolean))
  (yJ7_fill_fda19, cJ7_fill_fda19, 5, none))
  (a_sel 251 n
  (yJ7_fill_53178, cJ7_fill_53178, 4, none)
  (yJ7_fill_bad5a, cJ7_fill_bad5a, 6, none)))
  (a_sel 248 n
  (a_sel 249 n
  (yJ7_fill_d0a16, cJ7_fill_d0a16, 5, none)
  (yJ7_rangeCheck_23922, cJ7_rangeCheck_23922, 3, none))
  (a_sel 247 n
  (yJ13_bitCount_95d88, cJ13_bitCount_95d88, 2, (some .int))
  (yJ13_numberOfTrailingZeros_95d88, cJ13_numberOfTrailingZeros_95d88, 3, (some .int)))))
  (a_sel 242 n
  (a_sel 244 n
  (a_sel 245 n
  (yJ6_bitCount_0f7a4, cJ6_bitCount_0f7a4, 1, (some .int))
  (yJ6_numberOfTrailingZeros_0f7a4, cJ6_numberOfTrailingZeros_0f7a4, 2, (some .int)))
  (a_sel 243 n
  (yX11_status, cX11_status, 1, (some .int))
  (yX11_count, cX11_count, 8, (some .int))))
  (a_sel 240 n
  (a_sel 241 n
  (yX11_slipped, cX11_slipped, 2, (some .int))
  (yX11_show, cX11_show, 8, (some .int)))
  (a_sel 239 n
  (yX11_who, cX11_who, 6, (some .int))
  (yX11_made, cX11_made, 3, (some .int))))))
  (a_sel 230 n
  (a_sel 234 n
  (a_sel 236 n
  (a_sel 237 n
  (yX11_isCast, cX11_isCast, 2, (some .boolean))
  (yX11_take, cX11_take, 6, none))
  (a_sel 235 n
  (yX11_goOver, cX11_goOver, 19, none)
  (yX11_maskAt, cX11_maskAt, 3, (some .long))))
  (a_sel 232 n
  (a_sel 233 n
  (yX11_findMade, cX11_findMade, 4, none)
  (yX11_tryPlace, cX11_tryPlace, 11, none))
  (a_sel 231 n
  (yX11_findShadows, cX11_findShadows, 6, none)
  (yX11_findCells, cX11_findCells, 3, (some .boolean)))))
  (a_sel 226 n
  (a_sel 228 n
  (a_sel 229 n
  (yX11_barred, cX11_barred, 5, (some .int))
  (yX11_fewest, cX11_fewest, 4, (some .int)))
  (a_sel 227 n
  (yX11_passed, cX11_passed, 4, (some .int))
  (yX11_holder, cX11_holder, 3, (some .int))))
  (a_sel 224 n
  (a_sel 225 n
  (yX11_least, cX11_least, 2, (some .int))
  (yX11_findFirst, cX11_findFirst, 6, none))
  (a_sel 223 n
  (yX11_passedBetween, cX11_passedBetween, 8, (some .int))
  (yX11_backFigure, cX11_backFigure, 14, none))))))
  (a_sel 206 n
  (a_sel 214 n
  (a_sel 218 n
  (a_sel 220 n
  (a_sel 221 n
  (yX11_reckonBeat, cX11_reckonBeat, 5, none)
  (yX11_findLeast, cX11_findLeast, 4, none))
  (a_sel 219 n
  (yX11_holdings, cX11_holdings, 2, (some .int))
  (yX11_holdingsOf, cX11_holdingsOf, 6, (some .int))))
  (a_sel 216 n
  (a_sel 217 n
  (yX11_isHolding, cX11_isHolding, 10, (some .boolean))
  (yX11_holderIn, cX11_holderIn, 2, (some .int)))
  (a_sel 215 n
  (yX11_findCan, cX11_findCan, 5, none)
  (yX11_holds, cX11_holds, 4, (some .int)))))
  (a_sel 210 n
  (a_sel 212 n
  (a_sel 213 n
  (yX11_onBits, cX11_onBits, 4, (some .int))
  (yX11_isStill, cX11_isStill, 5, (some .boolean)))
  (a_sel 211 n
  (yX11_isNear, cX11_isNear, 6, (some .boolean))
  (yX11_canHold, cX11_canHold, 8, (some .boolean))))
  (a_sel 208 n
  (a_sel 209 n
  (yX11_copy, cX11_copy, 4, (some .int))
  (yX11_common, cX11_common, 6, (some .int)))
  (a_sel 207 n
  (yX11_seen, cX11_seen, 10, (some .int))
  (yX11_shadow, cX11_shadow, 4, (some .int))))))
  (a_sel 198 n
  (a_sel 202 n
  (a_sel 204 n
  (a_sel 205 n
  (yX11_allRow, cX11_allRow, 5, (some .int))
  (yX11_shadowRow, cX11_shadowRow, 9, (some .int)))
  (a_sel 203 n
  (yX11_tells, cX11_tells, 12, (some .int))
  (yX11_isSo, cX11_isSo, 2, (some .boolean))))
  (a_sel 200 n
  (a_sel 201 n
  (yX11_reckonAll, cX11_reckonAll, 7, none)
  (yX11_reckon, cX11_reckon, 6, (some .long)))
  (a_sel 199 n
  (yX11_play, cX11_play, 3, (some .int))
  (yX11_readClause, cX11_readClause, 5, none))))
  (a_sel 194 n
  (a_sel 196 n
  (a_sel 197 n
  (yX11_readBeat, cX11_readBeat, 9, none)
  (yX11_readExpression, cX11_readExpression, 3, none))
  (a_sel 195 n
  (yX11_behindTest, cX11_behindTest, 2, (some .int))
  (yX11_behindSum, cX11_behindSum, 4, (some .int))))
  (a_sel 192 n
  (a_sel 193 n
  (yX11_readPlain, cX11_readPlain, 1, (some .int))
  (yX11_readPart, cX11_readPart, 3, (some .int)))
  (a_sel 191 n
  (yX11_leaf, cX11_leaf, 4, none)
  (yX11_openBracket, cX11_openBracket, 2, none)))))))
  (a_sel 158 n
  (a_sel 174 n
  (a_sel 182 n
  (a_sel 186 n
  (a_sel 188 n
  (a_sel 189 n
  (yX11_partAt, cX11_partAt, 3, (some .int))
  (yX11_isCompared, cX11_isCompared, 2, (some .boolean)))
  (a_sel 187 n
  (yX11_inner, cX11_inner, 3, (some .int))
  (yX11_settle, cX11_settle, 2, none)))
  (a_sel 184 n
  (a_sel 185 n
  (yX11_binds, cX11_binds, 1, (some .int))
  (yX11_push, cX11_push, 3, none))
  (a_sel 183 n
  (yX11_emit, cX11_emit, 3, none)
  (yX11_fault, cX11_fault, 1, (some .int)))))
  (a_sel 178 n
  (a_sel 180 n
  (a_sel 181 n
  (yX11_number, cX11_number, 6, (some .int))
  (yX11_must, cX11_must, 2, none))
  (a_sel 179 n
  (yX11_isSign, cX11_isSign, 2, (some .boolean))
  (yX11_isWord, cX11_isWord, 3, (some .boolean))))
  (a_sel 176 n
  (a_sel 177 n
  (yX11_next, cX11_next, 1, none)
  (yX11_begin, cX11_begin, 1, none))
  (a_sel 175 n
  (yX11_isDigit, cX11_isDigit, 1, (some .boolean))
  (yX11_isSmall, cX11_isSmall, 1, (some .boolean))))))
  (a_sel 166 n
  (a_sel 170 n
  (a_sel 172 n
  (a_sel 173 n
  (yX11_end, cX11_end, 2, (some .int))
  (yX11_feed, cX11_feed, 6, (some .int)))
  (a_sel 171 n
  (yX11_four, cX11_four, 3, none)
  (yX11_sheet, cX11_sheet, 2, (some .int))))
  (a_sel 168 n
  (a_sel 169 n
  (yX11_outline, cX11_outline, 3, (some .int))
  (yX11_torn, cX11_torn, 1, (some .int)))
  (a_sel 167 n
  (yX11_row, cX11_row, 7, (some .int))
  (yX11_bits, cX11_bits, 3, (some .int)))))
  (a_sel 162 n
  (a_sel 164 n
  (a_sel 165 n
  (yX11_of, cX11_of, 4, (some .int))
  (yX11_off, cX11_off, 4, (some .int)))
  (a_sel 163 n
  (yX11_on, cX11_on, 6, (some .int))
  (yX11_put, cX11_put, 8, none)))
  (a_sel 160 n
  (a_sel 161 n
  (yX11_terms, cX11_terms, 3, (some .int))
  (yX11_isTerm, cX11_isTerm, 2, (some .boolean)))
  (a_sel 159 n
  (yX11_sticks, cX11_sticks, 3, (some .int))
  (yX11_figure, cX11_figure, 3, (some .int)))))))
  (a_sel 142 n
  (a_sel 150 n
  (a_sel 154 n
  (a_sel 156 n
  (a_sel 157 n
  (yX11_deepOf, cX11_deepOf, 4, (some .int))
  (yX11_isOn, cX11_isOn, 3, (some .boolean)))
  (a_sel 155 n
  (yX11_placeOf, cX11_placeOf, 4, (some .int))
  (yX11_term, cX11_term, 2, (some .int))))
  (a_sel 152 n
  (a_sel 153 n
  (yX11_isBeat, cX11_isBeat, 1, (some .boolean))
  (yX11_isFigure, cX11_isFigure, 2, (some .boolean)))
  (a_sel 151 n
  (yX11_back, cX11_back, 3, (some .int))
  (yX11_image, cX11_image, 3, (some .int)))))
  (a_sel 146 n
  (a_sel 148 n
  (a_sel 149 n
  (yX11_change, cX11_change, 4, (some .int))
  (yX11_was, cX11_was, 2, (some .int)))
  (a_sel 147 n
  (yX11_tell, cX11_tell, 2, (some .int))
  (yX11_is, cX11_is, 2, (some .boolean))))
  (a_sel 144 n
  (a_sel 145 n
  (yX11_in, cX11_in, 6, (some .boolean))
  (yX11_init, cX11_init, 1, none))
  (a_sel 143 n
  (yX10_countBeats, cX10_countBeats, 7, (some .int))
  (yX10_takeSheet, cX10_takeSheet, 5, (some .int))))))
  (a_sel 134 n
  (a_sel 138 n
  (a_sel 140 n
  (a_sel 141 n
  (yX10_takeOutline, cX10_takeOutline, 5, (some .int))
  (yX10_writeWord, cX10_writeWord, 3, none))
  (a_sel 139 n
  (yX10_canBeAsked, cX10_canBeAsked, 2, (some .boolean))
  (yX10_changeCast, cX10_changeCast, 1, none)))
  (a_sel 136 n
  (a_sel 137 n
  (yX10_changeHands, cX10_changeHands, 1, none)
  (yX10_accept, cX10_accept, 2, (some .int)))
  (a_sel 135 n
  (yX10_refuse, cX10_refuse, 2, (some .int))
  (yX10_isBeat, cX10_isBeat, 1, (some .boolean)))))
  (a_sel 130 n
  (a_sel 132 n
  (a_sel 133 n
  (yX10_status, cX10_status, 1, (some .int))
  (yX10_count, cX10_count, 2, (some .int)))
  (a_sel 131 n
  (yX10_back, cX10_back, 3, (some .int))
  (yX10_image, cX10_image, 3, (some .int))))
  (a_sel 128 n
  (a_sel 129 n
  (yX10_slipped, cX10_slipped, 2, (some .int))
  (yX10_show, cX10_show, 7, (some .int)))
  (yX10_copy, cX10_copy, 3, (some .int))))))))
  (a_sel 63 n
  (a_sel 95 n
  (a_sel 111 n
  (a_sel 119 n
  (a_sel 123 n
  (a_sel 125 n
  (a_sel 126 n
  (yX10_sheet, cX10_sheet, 2, (some .int))
  (yX10_who, cX10_who, 4, (some .int)))
  (a_sel 124 n
  (yX10_made, cX10_made, 3, (some .int))
  (yX10_barred, cX10_barred, 3, (some .int))))
  (a_sel 121 n
  (a_sel 122 n
  (yX10_fewest, cX10_fewest, 2, (some .int))
  (yX10_passed, cX10_passed, 2, (some .int)))
  (a_sel 120 n
  (yX10_holder, cX10_holder, 3, (some .int))
  (yX10_least, cX10_least, 2, (some .int)))))
  (a_sel 115 n
  (a_sel 117 n
  (a_sel 118 n
  (yX10_holdings, cX10_holdings, 2, (some .int))
  (yX10_holds, cX10_holds, 4, (some .int)))
  (a_sel 116 n
  (yX10_common, cX10_common, 4, (some .int))
  (yX10_seen, cX10_seen, 4, (some .int))))
  (a_sel 113 n
  (a_sel 114 n
  (yX10_shadow, cX10_shadow, 4, (some .int))
  (yX10_fault, cX10_fault, 1, (some .int)))
  (a_sel 112 n
  (yX10_play, cX10_play, 2, (some .int))
  (yX10_outline, cX10_outline, 3, (some .int))))))
  (a_sel 103 n
  (a_sel 107 n
  (a_sel 109 n
  (a_sel 110 n
  (yX10_torn, cX10_torn, 1, (some .int))
  (yX10_row, cX10_row, 3, (some .int)))
  (a_sel 108 n
  (yX10_end, cX10_end, 2, (some .int))
  (yX10_feed, cX10_feed, 6, (some .int))))
  (a_sel 105 n
  (a_sel 106 n
  (yX10_of, cX10_of, 5, (some .int))
  (yX10_off, cX10_off, 4, (some .int)))
  (a_sel 104 n
  (yX10_on, cX10_on, 6, (some .int))
  (yX10_terms, cX10_terms, 4, (some .int)))))
  (a_sel 99 n
  (a_sel 101 n
  (a_sel 102 n
  (yX10_sticks, cX10_sticks, 4, (some .int))
  (yX10_figure, cX10_figure, 3, (some .int)))
  (a_sel 100 n
  (yX10_init, cX10_init, 1, none)
  (yX9_lookFrom, cX9_lookFrom, 7, none)))
  (a_sel 97 n
  (a_sel 98 n
  (yX9_lookAt, cX9_lookAt, 4, none)
  (yX9_init, cX9_init, 1, none))
  (a_sel 96 n
  (yX8_takeFrom, cX8_takeFrom, 2, none)
  (yX8_endLaw, cX8_endLaw, 1, none))))))
  (a_sel 79 n
  (a_sel 87 n
  (a_sel 91 n
  (a_sel 93 n
  (a_sel 94 n
  (yX8_startTest, cX8_startTest, 1, none)
  (yX8_startLaw, cX8_startLaw, 2, none))
  (a_sel 92 n
  (yX8_jumpToHere, cX8_jumpToHere, 2, none)
  (yX8_add, cX8_add, 3, none)))
  (a_sel 89 n
  (a_sel 90 n
  (yX8_clear, cX8_clear, 1, none)
  (yX8_init, cX8_init, 1, none))
  (a_sel 88 n
  (yX7_takeFrom, cX7_takeFrom, 2, none)
  (yX7_toldCells, cX7_toldCells, 3, (some .int)))))
  (a_sel 83 n
  (a_sel 85 n
  (a_sel 86 n
  (yX7_stays, cX7_stays, 4, (some .boolean))
  (yX7_put, cX7_put, 7, none))
  (a_sel 84 n
  (yX7_onBits, cX7_onBits, 4, (some .int))
  (yX7_depth, cX7_depth, 3, (some .int))))
  (a_sel 81 n
  (a_sel 82 n
  (yX7_isOn, cX7_isOn, 3, (some .boolean))
  (yX7_has, cX7_has, 2, (some .boolean)))
  (a_sel 80 n
  (yX7_init, cX7_init, 1, none)
  (yX6_wordBetween, cX6_wordBetween, 8, (some .int))))))
  (a_sel 71 n
  (a_sel 75 n
  (a_sel 77 n
  (a_sel 78 n
  (yX6_advance, cX6_advance, 2, none)
  (yX6_takeNumber, cX6_takeNumber, 4, (some .boolean)))
  (a_sel 76 n
  (yX6_take, cX6_take, 2, (some .boolean))
  (yX6_fail, cX6_fail, 1, (some .boolean))))
  (a_sel 73 n
  (a_sel 74 n
  (yX6_readPart, cX6_readPart, 4, (some .boolean))
  (yX6_readWithin, cX6_readWithin, 4, (some .boolean)))
  (a_sel 72 n
  (yX6_readComparison, cX6_readComparison, 3, (some .boolean))
  (yX6_readPlain, cX6_readPlain, 4, (some .boolean)))))
  (a_sel 67 n
  (a_sel 69 n
  (a_sel 70 n
  (yX6_operationAt, cX6_operationAt, 2, (some .int))
  (yX6_readLevel, cX6_readLevel, 6, (some .boolean)))
  (a_sel 68 n
  (yX6_readMove, cX6_readMove, 2, (some .boolean))
  (yX6_readClause, cX6_readClause, 2, (some .boolean))))
  (a_sel 65 n
  (a_sel 66 n
  (yX6_tellMoves, cX6_tellMoves, 5, none)
  (yX6_readText, cX6_readText, 4, (some .boolean)))
  (a_sel 64 n
  (yX6_init, cX6_init, 1, none)
  (yX5_add, cX5_add, 7, none)))))))
  (a_sel 31 n
  (a_sel 47 n
  (a_sel 55 n
  (a_sel 59 n
  (a_sel 61 n
  (a_sel 62 n
  (yX5_maskAt, cX5_maskAt, 11, (some .long))
  (yX5_staysWithin, cX5_staysWithin, 12, (some .boolean)))
  (a_sel 60 n
  (yX5_gather, cX5_gather, 9, none)
  (yX5_init, cX5_init, 1, none)))
  (a_sel 57 n
  (a_sel 58 n
  (yX4_passTo, cX4_passTo, 7, (some .int))
  (yX4_followFirst, cX4_followFirst, 5, none))
  (a_sel 56 n
  (yX4_sumUp, cX4_sumUp, 5, none)
  (yX4_give, cX4_give, 8, none))))
  (a_sel 51 n
  (a_sel 53 n
  (a_sel 54 n
  (yX4_keepHoldings, cX4_keepHoldings, 3, none)
  (yX4_either, cX4_either, 4, (some .long)))
  (a_sel 52 n
  (yX4_mix, cX4_mix, 18, none)
  (yX4_carryBack, cX4_carryBack, 8, none)))
  (a_sel 49 n
  (a_sel 50 n
  (yX4_fillCosts, cX4_fillCosts, 7, none)
  (yX4_costAt, cX4_costAt, 4, (some .int)))
  (a_sel 48 n
  (yX4_sizeOf, cX4_sizeOf, 4, (some .int))
  (yX4_holderOf, cX4_holderOf, 2, (some .int))))))
  (a_sel 39 n
  (a_sel 43 n
  (a_sel 45 n
  (a_sel 46 n
  (yX4_passesOf, cX4_passesOf, 6, (some .int))
  (yX4_holderAt, cX4_holderAt, 3, (some .int)))
  (a_sel 44 n
  (yX4_findLeast, cX4_findLeast, 2, (some .boolean))
  (yX4_init, cX4_init, 4, none)))
  (a_sel 41 n
  (a_sel 42 n
  (yX3_countFilling, cX3_countFilling, 18, (some .long))
  (yX3_keepFirst, cX3_keepFirst, 3, none))
  (a_sel 40 n
  (yX3_countBeside, cX3_countBeside, 16, (some .long))
  (yX3_rarestCell, cX3_rarestCell, 6, (some .int)))))
  (a_sel 35 n
  (a_sel 37 n
  (a_sel 38 n
  (yX3_tryTriple, cX3_tryTriple, 13, none)
  (yX3_tryPair, cX3_tryPair, 11, none))
  (a_sel 36 n
  (yX3_trySingle, cX3_trySingle, 4, none)
  (yX3_choose, cX3_choose, 2, none)))
  (a_sel 33 n
  (a_sel 34 n
  (yX3_isBetter, cX3_isBetter, 2, (some .boolean))
  (yX3_trySet, cX3_trySet, 6, none))
  (a_sel 32 n
  (yX3_gatherCast, cX3_gatherCast, 2, none)
  (yX3_tellOf, cX3_tellOf, 5, (some .int)))))))
  (a_sel 15 n
  (a_sel 23 n
  (a_sel 27 n
  (a_sel 29 n
  (a_sel 30 n
  (yX3_wayCount, cX3_wayCount, 1, (some .int))
  (yX3_solve, cX3_solve, 3, none))
  (a_sel 28 n
  (yX3_forget, cX3_forget, 2, none)
  (yX3_init, cX3_init, 2, none)))
  (a_sel 25 n
  (a_sel 26 n
  (yX2_blur, cX2_blur, 4, (some .int))
  (yX2_hiddenCells, cX2_hiddenCells, 9, (some .int)))
  (a_sel 24 n
  (yX2_cellsInBoth, cX2_cellsInBoth, 6, (some .int))
  (yX2_rowOfAll, cX2_rowOfAll, 5, (some .int)))))
  (a_sel 19 n
  (a_sel 21 n
  (a_sel 22 n
  (yX2_rowOf, cX2_rowOf, 12, (some .int))
  (yX2_project, cX2_project, 3, (some .int)))
  (a_sel 20 n
  (yX2_init, cX2_init, 2, none)
  (yX1_isTogether, cX1_isTogether, 3, (some .boolean))))
  (a_sel 17 n
  (a_sel 18 n
  (yX1_handsSuffice, cX1_handsSuffice, 5, (some .boolean))
  (yX1_setsFor, cX1_setsFor, 7, (some .long)))
  (a_sel 16 n
  (yX1_allowedFor, cX1_allowedFor, 5, (some .int))
  (yX1_farFrom, cX1_farFrom, 7, (some .int))))))
  (a_sel 7 n
  (a_sel 11 n
  (a_sel 13 n
  (a_sel 14 n
  (yX1_spreadWays, cX1_spreadWays, 9, none)
  (yX1_spread, cX1_spread, 10, (some .long)))
  (a_sel 12 n
  (yX1_reached, cX1_reached, 6, (some .long))
  (yX1_coreAt, cX1_coreAt, 8, (some .int))))
  (a_sel 9 n
  (a_sel 10 n
  (yX1_firstBarred, cX1_firstBarred, 3, (some .int))
  (yX1_waysOfAll, cX1_waysOfAll, 5, (some .int)))
  (a_sel 8 n
  (yX1_canHold, cX1_canHold, 4, (some .boolean))
  (yX1_lookAt, cX1_lookAt, 3, none))))
  (a_sel 3 n
  (a_sel 5 n
  (a_sel 6 n
  (yX1_forget, cX1_forget, 2, none)
  (yX1_init, cX1_init, 3, none))
  (a_sel 4 n
  (yX0_join, cX0_join, 5, (some .long))
  (yX0_valueOf, cX0_valueOf, 10, (some .long))))
  (a_sel 1 n
  (a_sel 2 n
  (yX0_tellLast, cX0_tellLast, 10, (some .int))
  (yX0_turnTo, cX0_turnTo, 6, none))
  (yX0_init, cX0_init, 2, none))))))))
def aYY (n : Nat) : MethodName := (aInf n).1
def aBB (n : Nat) : ByteArray := (aInf n).2.1
def aMX (n : Nat) : Nat := (aInf n).2.2.1
def aRR (n : Nat) : Option FieldType := (aInf n).2.2.2
def aTab (mi pc : Nat) : Option aI := a_look (aTbs mi) pc
