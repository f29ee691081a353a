/-! ===== tables, laid by wip/whole/gen_tab.py out of the decode rows that are printed for the claim ===== -/
theorem tW1 {w : Jvm.Cond} (i : Nat) (h : tables_1_1[i]? = some w) (hr : a_ridw w = true) : w ∈ aW := aW_mem (List.mem_append_right _ (show w ∈ tables_1 from List.mem_append_left _ (List.mem_of_getElem? h))) hr
theorem tW2 {w : Jvm.Cond} (i : Nat) (h : tables_1_2[i]? = some w) (hr : a_ridw w = true) : w ∈ aW := aW_mem (List.mem_append_right _ (show w ∈ tables_1 from List.mem_append_right _ (List.mem_append_left _ (List.mem_of_getElem? h)))) hr
theorem tW3 {w : Jvm.Cond} (i : Nat) (h : tables_1_3[i]? = some w) (hr : a_ridw w = true) : w ∈ aW := aW_mem (List.mem_append_right _ (show w ∈ tables_1 from List.mem_append_right _ (List.mem_append_right _ (List.mem_append_left _ (List.mem_of_getElem? h))))) hr
theorem tW4 {w : Jvm.Cond} (i : Nat) (h : tables_1_4[i]? = some w) (hr : a_ridw w = true) : w ∈ aW := aW_mem (List.mem_append_right _ (show w ∈ tables_1 from List.mem_append_right _ (List.mem_append_right _ (List.mem_append_right _ (List.mem_append_left _ (List.mem_of_getElem? h)))))) hr
theorem tW5 {w : Jvm.Cond} (i : Nat) (h : tables_1_5[i]? = some w) (hr : a_ridw w = true) : w ∈ aW := aW_mem (List.mem_append_right _ (show w ∈ tables_1 from List.mem_append_right _ (List.mem_append_right _ (List.mem_append_right _ (List.mem_append_right _ (List.mem_append_left _ (List.mem_of_getElem? h))))))) hr
theorem tW6 {w : Jvm.Cond} (i : Nat) (h : tables_1_6[i]? = some w) (hr : a_ridw w = true) : w ∈ aW := aW_mem (List.mem_append_right _ (show w ∈ tables_1 from List.mem_append_right _ (List.mem_append_right _ (List.mem_append_right _ (List.mem_append_right _ (List.mem_append_right _ (List.mem_append_left _ (List.mem_of_getElem? h)))))))) hr
theorem tW7 {w : Jvm.Cond} (i : Nat) (h : tables_1_7[i]? = some w) (hr : a_ridw w = true) : w ∈ aW := aW_mem (List.mem_append_right _ (show w ∈ tables_1 from List.mem_append_right _ (List.mem_append_right _ (List.mem_append_right _ (List.mem_append_right _ (List.mem_append_right _ (List.mem_append_right _ (List.mem_append_left _ (List.mem_of_getElem? h))))))))) hr
theorem tW8 {w : Jvm.Cond} (i : Nat) (h : tables_1_8[i]? = some w) (hr : a_ridw w = true) : w ∈ aW := aW_mem (List.mem_append_right _ (show w ∈ tables_1 from List.mem_append_right _ (List.mem_append_right _ (List.mem_append_right _ (List.mem_append_right _ (List.mem_append_right _ (List.mem_append_right _ (List.mem_append_right _ (List.mem_of_getElem? h))))))))) hr
theorem sW {w : Jvm.Cond} (i : Nat) (h : (k2_sels lw_privs)[i]? = some w) (hr : a_ridw w = true) : w ∈ aW := aW_mem (List.mem_append_left _ (List.mem_of_getElem? h)) hr
set_option maxRecDepth 100000 in
theorem ca_Asker_init : a_callee aYY aBB aMX aRR 0 := ⟨tW1 198 rfl rfl, tW1 6 rfl rfl, by decide +kernel, by decide +kernel, by decide +kernel⟩
set_option maxRecDepth 100000 in
theorem ca_Asker_turnTo : a_callee aYY aBB aMX aRR 1 := ⟨tW4 85 rfl rfl, tW1 6 rfl rfl, by decide +kernel, by decide +kernel, by decide +kernel⟩
set_option maxRecDepth 100000 in
theorem ca_Asker_tellLast : a_callee aYY aBB aMX aRR 2 := ⟨tW4 91 rfl rfl, tW1 6 rfl rfl, by decide +kernel, by decide +kernel, by decide +kernel⟩
set_option maxRecDepth 100000 in
theorem ca_Asker_valueOf : a_callee aYY aBB aMX aRR 3 := ⟨tW4 95 rfl rfl, tW1 6 rfl rfl, by decide +kernel, by decide +kernel, by decide +kernel⟩
set_option maxRecDepth 100000 in
theorem ca_Asker_join : a_callee aYY aBB aMX aRR 4 := ⟨tW4 99 rfl rfl, tW1 6 rfl rfl, by decide +kernel, by decide +kernel, by decide +kernel⟩
set_option maxRecDepth 100000 in
theorem ca_Hands_init : a_callee aYY aBB aMX aRR 5 := ⟨tW1 218 rfl rfl, tW1 7 rfl rfl, by decide +kernel, by decide +kernel, by decide +kernel⟩
set_option maxRecDepth 100000 in
theorem ca_Hands_forget : a_callee aYY aBB aMX aRR 6 := ⟨tW2 220 rfl rfl, tW1 7 rfl rfl, by decide +kernel, by decide +kernel, by decide +kernel⟩
set_option maxRecDepth 100000 in
theorem ca_Hands_lookAt : a_callee aYY aBB aMX aRR 7 := ⟨tW4 63 rfl rfl, tW1 7 rfl rfl, by decide +kernel, by decide +kernel, by decide +kernel⟩
set_option maxRecDepth 100000 in
theorem ca_Hands_canHold : a_callee aYY aBB aMX aRR 8 := ⟨tW4 124 rfl rfl, tW1 7 rfl rfl, by decide +kernel, by decide +kernel, by decide +kernel⟩
set_option maxRecDepth 100000 in
theorem ca_Hands_waysOfAll : a_callee aYY aBB aMX aRR 9 := ⟨tW4 132 rfl rfl, tW1 7 rfl rfl, by decide +kernel, by decide +kernel, by decide +kernel⟩
set_option maxRecDepth 100000 in
theorem ca_Hands_firstBarred : a_callee aYY aBB aMX aRR 10 := ⟨tW4 148 rfl rfl, tW1 7 rfl rfl, by decide +kernel, by decide +kernel, by decide +kernel⟩
set_option maxRecDepth 100000 in
theorem ca_Hands_coreAt : a_callee aYY aBB aMX aRR 11 := ⟨tW5 12 rfl rfl, tW1 7 rfl rfl, by decide +kernel, by decide +kernel, by decide +kernel⟩
set_option maxRecDepth 100000 in
theorem ca_Hands_reached : a_callee aYY aBB aMX aRR 12 := ⟨tW4 153 rfl rfl, tW1 7 rfl rfl, by decide +kernel, by decide +kernel, by decide +kernel⟩
set_option maxRecDepth 100000 in
theorem ca_Hands_spread : a_callee aYY aBB aMX aRR 13 := ⟨tW4 156 rfl rfl, tW1 7 rfl rfl, by decide +kernel, by decide +kernel, by decide +kernel⟩
set_option maxRecDepth 100000 in
theorem ca_Hands_spreadWays : a_callee aYY aBB aMX aRR 14 := ⟨tW4 136 rfl rfl, tW1 7 rfl rfl, by decide +kernel, by decide +kernel, by decide +kernel⟩
set_option maxRecDepth 100000 in
theorem ca_Hands_farFrom : a_callee aYY aBB aMX aRR 15 := ⟨tW4 68 rfl rfl, tW1 7 rfl rfl, by decide +kernel, by decide +kernel, by decide +kernel⟩
set_option maxRecDepth 100000 in
theorem ca_Hands_allowedFor : a_callee aYY aBB aMX aRR 16 := ⟨tW4 77 rfl rfl, tW1 7 rfl rfl, by decide +kernel, by decide +kernel, by decide +kernel⟩
set_option maxRecDepth 100000 in
theorem ca_Hands_setsFor : a_callee aYY aBB aMX aRR 17 := ⟨tW4 111 rfl rfl, tW1 7 rfl rfl, by decide +kernel, by decide +kernel, by decide +kernel⟩
set_option maxRecDepth 100000 in
theorem ca_Hands_handsSuffice : a_callee aYY aBB aMX aRR 18 := ⟨tW4 116 rfl rfl, tW1 7 rfl rfl, by decide +kernel, by decide +kernel, by decide +kernel⟩
set_option maxRecDepth 100000 in
theorem ca_Hands_isTogether : a_callee aYY aBB aMX aRR 19 := ⟨tW4 120 rfl rfl, tW1 7 rfl rfl, by decide +kernel, by decide +kernel, by decide +kernel⟩
set_option maxRecDepth 100000 in
theorem ca_Light_init : a_callee aYY aBB aMX aRR 20 := ⟨tW1 188 rfl rfl, tW1 5 rfl rfl, by decide +kernel, by decide +kernel, by decide +kernel⟩
set_option maxRecDepth 100000 in
theorem ca_Light_project : a_callee aYY aBB aMX aRR 21 := ⟨tW4 28 rfl rfl, tW1 5 rfl rfl, by decide +kernel, by decide +kernel, by decide +kernel⟩
set_option maxRecDepth 100000 in
theorem ca_Light_rowOf : a_callee aYY aBB aMX aRR 22 := ⟨tW4 23 rfl rfl, tW1 5 rfl rfl, by decide +kernel, by decide +kernel, by decide +kernel⟩
set_option maxRecDepth 100000 in
theorem ca_Light_rowOfAll : a_callee aYY aBB aMX aRR 23 := ⟨tW4 19 rfl rfl, tW1 5 rfl rfl, by decide +kernel, by decide +kernel, by decide +kernel⟩
set_option maxRecDepth 100000 in
theorem ca_Light_cellsInBoth : a_callee aYY aBB aMX aRR 24 := ⟨tW4 38 rfl rfl, tW1 5 rfl rfl, by decide +kernel, by decide +kernel, by decide +kernel⟩
set_option maxRecDepth 100000 in
theorem ca_Light_hiddenCells : a_callee aYY aBB aMX aRR 25 := ⟨tW4 43 rfl rfl, tW1 5 rfl rfl, by decide +kernel, by decide +kernel, by decide +kernel⟩
set_option maxRecDepth 100000 in
theorem ca_Light_blur : a_callee aYY aBB aMX aRR 26 := ⟨tW4 47 rfl rfl, tW1 5 rfl rfl, by decide +kernel, by decide +kernel, by decide +kernel⟩
set_option maxRecDepth 100000 in
theorem ca_Maker_init : a_callee aYY aBB aMX aRR 27 := ⟨tW2 67 rfl rfl, tW1 9 rfl rfl, by decide +kernel, by decide +kernel, by decide +kernel⟩
set_option maxRecDepth 100000 in
theorem ca_Maker_forget : a_callee aYY aBB aMX aRR 28 := ⟨tW3 8 rfl rfl, tW1 9 rfl rfl, by decide +kernel, by decide +kernel, by decide +kernel⟩
set_option maxRecDepth 100000 in
theorem ca_Maker_solve : a_callee aYY aBB aMX aRR 29 := ⟨tW5 24 rfl rfl, tW1 9 rfl rfl, by decide +kernel, by decide +kernel, by decide +kernel⟩
set_option maxRecDepth 100000 in
theorem ca_Maker_wayCount : a_callee aYY aBB aMX aRR 30 := ⟨tW5 160 rfl rfl, tW1 9 rfl rfl, by decide +kernel, by decide +kernel, by decide +kernel⟩
set_option maxRecDepth 100000 in
theorem ca_Maker_tellOf : a_callee aYY aBB aMX aRR 31 := ⟨tW5 170 rfl rfl, tW1 9 rfl rfl, by decide +kernel, by decide +kernel, by decide +kernel⟩
set_option maxRecDepth 100000 in
theorem ca_Maker_gatherCast : a_callee aYY aBB aMX aRR 32 := ⟨tW5 40 rfl rfl, tW1 9 rfl rfl, by decide +kernel, by decide +kernel, by decide +kernel⟩
set_option maxRecDepth 100000 in
theorem ca_Maker_trySet : a_callee aYY aBB aMX aRR 33 := ⟨tW5 118 rfl rfl, tW1 9 rfl rfl, by decide +kernel, by decide +kernel, by decide +kernel⟩
set_option maxRecDepth 100000 in
theorem ca_Maker_isBetter : a_callee aYY aBB aMX aRR 34 := ⟨tW5 126 rfl rfl, tW1 9 rfl rfl, by decide +kernel, by decide +kernel, by decide +kernel⟩
set_option maxRecDepth 100000 in
theorem ca_Maker_choose : a_callee aYY aBB aMX aRR 35 := ⟨tW5 130 rfl rfl, tW1 9 rfl rfl, by decide +kernel, by decide +kernel, by decide +kernel⟩
set_option maxRecDepth 100000 in
theorem ca_Maker_trySingle : a_callee aYY aBB aMX aRR 36 := ⟨tW5 122 rfl rfl, tW1 9 rfl rfl, by decide +kernel, by decide +kernel, by decide +kernel⟩
set_option maxRecDepth 100000 in
theorem ca_Maker_tryPair : a_callee aYY aBB aMX aRR 37 := ⟨tW5 134 rfl rfl, tW1 9 rfl rfl, by decide +kernel, by decide +kernel, by decide +kernel⟩
set_option maxRecDepth 100000 in
theorem ca_Maker_tryTriple : a_callee aYY aBB aMX aRR 38 := ⟨tW5 145 rfl rfl, tW1 9 rfl rfl, by decide +kernel, by decide +kernel, by decide +kernel⟩
set_option maxRecDepth 100000 in
theorem ca_Maker_rarestCell : a_callee aYY aBB aMX aRR 39 := ⟨tW5 148 rfl rfl, tW1 9 rfl rfl, by decide +kernel, by decide +kernel, by decide +kernel⟩
set_option maxRecDepth 100000 in
theorem ca_Maker_countBeside : a_callee aYY aBB aMX aRR 40 := ⟨tW5 152 rfl rfl, tW1 9 rfl rfl, by decide +kernel, by decide +kernel, by decide +kernel⟩
set_option maxRecDepth 100000 in
theorem ca_Maker_keepFirst : a_callee aYY aBB aMX aRR 41 := ⟨tW5 156 rfl rfl, tW1 9 rfl rfl, by decide +kernel, by decide +kernel, by decide +kernel⟩
set_option maxRecDepth 100000 in
theorem ca_Maker_countFilling : a_callee aYY aBB aMX aRR 42 := ⟨tW5 139 rfl rfl, tW1 9 rfl rfl, by decide +kernel, by decide +kernel, by decide +kernel⟩
set_option maxRecDepth 100000 in
theorem ca_Planner_init : a_callee aYY aBB aMX aRR 43 := ⟨tW2 12 rfl rfl, tW1 8 rfl rfl, by decide +kernel, by decide +kernel, by decide +kernel⟩
set_option maxRecDepth 100000 in
theorem ca_Planner_findLeast : a_callee aYY aBB aMX aRR 44 := ⟨tW4 144 rfl rfl, tW1 8 rfl rfl, by decide +kernel, by decide +kernel, by decide +kernel⟩
set_option maxRecDepth 100000 in
theorem ca_Planner_holderAt : a_callee aYY aBB aMX aRR 45 := ⟨tW4 229 rfl rfl, tW1 8 rfl rfl, by decide +kernel, by decide +kernel, by decide +kernel⟩
set_option maxRecDepth 100000 in
theorem ca_Planner_passesOf : a_callee aYY aBB aMX aRR 46 := ⟨tW4 238 rfl rfl, tW1 8 rfl rfl, by decide +kernel, by decide +kernel, by decide +kernel⟩
set_option maxRecDepth 100000 in
theorem ca_Planner_holderOf : a_callee aYY aBB aMX aRR 47 := ⟨tW4 169 rfl rfl, tW1 8 rfl rfl, by decide +kernel, by decide +kernel, by decide +kernel⟩
set_option maxRecDepth 100000 in
theorem ca_Planner_sizeOf : a_callee aYY aBB aMX aRR 48 := ⟨tW4 182 rfl rfl, tW1 8 rfl rfl, by decide +kernel, by decide +kernel, by decide +kernel⟩
set_option maxRecDepth 100000 in
theorem ca_Planner_costAt : a_callee aYY aBB aMX aRR 49 := ⟨tW4 173 rfl rfl, tW1 8 rfl rfl, by decide +kernel, by decide +kernel, by decide +kernel⟩
set_option maxRecDepth 100000 in
theorem ca_Planner_fillCosts : a_callee aYY aBB aMX aRR 50 := ⟨tW4 164 rfl rfl, tW1 8 rfl rfl, by decide +kernel, by decide +kernel, by decide +kernel⟩
set_option maxRecDepth 100000 in
theorem ca_Planner_carryBack : a_callee aYY aBB aMX aRR 51 := ⟨tW4 178 rfl rfl, tW1 8 rfl rfl, by decide +kernel, by decide +kernel, by decide +kernel⟩
set_option maxRecDepth 100000 in
theorem ca_Planner_mix : a_callee aYY aBB aMX aRR 52 := ⟨tW4 188 rfl rfl, tW1 8 rfl rfl, by decide +kernel, by decide +kernel, by decide +kernel⟩
set_option maxRecDepth 100000 in
theorem ca_Planner_either : a_callee aYY aBB aMX aRR 53 := ⟨tW4 191 rfl rfl, tW1 8 rfl rfl, by decide +kernel, by decide +kernel, by decide +kernel⟩
set_option maxRecDepth 100000 in
theorem ca_Planner_keepHoldings : a_callee aYY aBB aMX aRR 54 := ⟨tW4 198 rfl rfl, tW1 8 rfl rfl, by decide +kernel, by decide +kernel, by decide +kernel⟩
set_option maxRecDepth 100000 in
theorem ca_Planner_give : a_callee aYY aBB aMX aRR 55 := ⟨tW4 208 rfl rfl, tW1 8 rfl rfl, by decide +kernel, by decide +kernel, by decide +kernel⟩
set_option maxRecDepth 100000 in
theorem ca_Planner_sumUp : a_callee aYY aBB aMX aRR 56 := ⟨tW4 213 rfl rfl, tW1 8 rfl rfl, by decide +kernel, by decide +kernel, by decide +kernel⟩
set_option maxRecDepth 100000 in
theorem ca_Planner_followFirst : a_callee aYY aBB aMX aRR 57 := ⟨tW4 217 rfl rfl, tW1 8 rfl rfl, by decide +kernel, by decide +kernel, by decide +kernel⟩
set_option maxRecDepth 100000 in
theorem ca_Planner_passTo : a_callee aYY aBB aMX aRR 58 := ⟨tW4 221 rfl rfl, tW1 8 rfl rfl, by decide +kernel, by decide +kernel, by decide +kernel⟩
set_option maxRecDepth 100000 in
theorem ca_Prints_init : a_callee aYY aBB aMX aRR 59 := ⟨tW5 44 rfl rfl, tW1 21 rfl rfl, by decide +kernel, by decide +kernel, by decide +kernel⟩
set_option maxRecDepth 100000 in
theorem ca_Prints_gather : a_callee aYY aBB aMX aRR 60 := ⟨tW5 84 rfl rfl, tW1 21 rfl rfl, by decide +kernel, by decide +kernel, by decide +kernel⟩
set_option maxRecDepth 100000 in
theorem ca_Prints_staysWithin : a_callee aYY aBB aMX aRR 61 := ⟨tW5 92 rfl rfl, tW1 21 rfl rfl, by decide +kernel, by decide +kernel, by decide +kernel⟩
set_option maxRecDepth 100000 in
theorem ca_Prints_maskAt : a_callee aYY aBB aMX aRR 62 := ⟨tW5 95 rfl rfl, tW1 21 rfl rfl, by decide +kernel, by decide +kernel, by decide +kernel⟩
set_option maxRecDepth 100000 in
theorem ca_Prints_add : a_callee aYY aBB aMX aRR 63 := ⟨tW5 99 rfl rfl, tW1 21 rfl rfl, by decide +kernel, by decide +kernel, by decide +kernel⟩
set_option maxRecDepth 100000 in
theorem ca_Reader_init : a_callee aYY aBB aMX aRR 64 := ⟨tW1 144 rfl rfl, tW1 4 rfl rfl, by decide +kernel, by decide +kernel, by decide +kernel⟩
set_option maxRecDepth 100000 in
theorem ca_Reader_readText : a_callee aYY aBB aMX aRR 65 := ⟨tW3 95 rfl rfl, tW1 4 rfl rfl, by decide +kernel, by decide +kernel, by decide +kernel⟩
set_option maxRecDepth 100000 in
theorem ca_Reader_tellMoves : a_callee aYY aBB aMX aRR 66 := ⟨tW4 5 rfl rfl, tW1 4 rfl rfl, by decide +kernel, by decide +kernel, by decide +kernel⟩
set_option maxRecDepth 100000 in
theorem ca_Reader_readClause : a_callee aYY aBB aMX aRR 67 := ⟨tW3 166 rfl rfl, tW1 4 rfl rfl, by decide +kernel, by decide +kernel, by decide +kernel⟩
set_option maxRecDepth 100000 in
theorem ca_Reader_readMove : a_callee aYY aBB aMX aRR 68 := ⟨tW3 170 rfl rfl, tW1 4 rfl rfl, by decide +kernel, by decide +kernel, by decide +kernel⟩
set_option maxRecDepth 100000 in
theorem ca_Reader_readLevel : a_callee aYY aBB aMX aRR 69 := ⟨tW3 197 rfl rfl, tW1 4 rfl rfl, by decide +kernel, by decide +kernel, by decide +kernel⟩
set_option maxRecDepth 100000 in
theorem ca_Reader_operationAt : a_callee aYY aBB aMX aRR 70 := ⟨tW3 213 rfl rfl, tW1 4 rfl rfl, by decide +kernel, by decide +kernel, by decide +kernel⟩
set_option maxRecDepth 100000 in
theorem ca_Reader_readPlain : a_callee aYY aBB aMX aRR 71 := ⟨tW3 201 rfl rfl, tW1 4 rfl rfl, by decide +kernel, by decide +kernel, by decide +kernel⟩
set_option maxRecDepth 100000 in
theorem ca_Reader_readComparison : a_callee aYY aBB aMX aRR 72 := ⟨tW3 209 rfl rfl, tW1 4 rfl rfl, by decide +kernel, by decide +kernel, by decide +kernel⟩
set_option maxRecDepth 100000 in
theorem ca_Reader_readWithin : a_callee aYY aBB aMX aRR 73 := ⟨tW3 205 rfl rfl, tW1 4 rfl rfl, by decide +kernel, by decide +kernel, by decide +kernel⟩
set_option maxRecDepth 100000 in
theorem ca_Reader_readPart : a_callee aYY aBB aMX aRR 74 := ⟨tW3 221 rfl rfl, tW1 4 rfl rfl, by decide +kernel, by decide +kernel, by decide +kernel⟩
set_option maxRecDepth 100000 in
theorem ca_Reader_fail : a_callee aYY aBB aMX aRR 75 := ⟨tW3 174 rfl rfl, tW1 4 rfl rfl, by decide +kernel, by decide +kernel, by decide +kernel⟩
set_option maxRecDepth 100000 in
theorem ca_Reader_take : a_callee aYY aBB aMX aRR 76 := ⟨tW3 188 rfl rfl, tW1 4 rfl rfl, by decide +kernel, by decide +kernel, by decide +kernel⟩
set_option maxRecDepth 100000 in
theorem ca_Reader_takeNumber : a_callee aYY aBB aMX aRR 77 := ⟨tW3 178 rfl rfl, tW1 4 rfl rfl, by decide +kernel, by decide +kernel, by decide +kernel⟩
set_option maxRecDepth 100000 in
theorem ca_Reader_advance : a_callee aYY aBB aMX aRR 78 := ⟨tW3 108 rfl rfl, tW1 4 rfl rfl, by decide +kernel, by decide +kernel, by decide +kernel⟩
set_option maxRecDepth 100000 in
theorem ca_Reader_wordBetween : a_callee aYY aBB aMX aRR 79 := ⟨tW3 113 rfl rfl, tW1 4 rfl rfl, by decide +kernel, by decide +kernel, by decide +kernel⟩
set_option maxRecDepth 100000 in
theorem ca_Scene_init : a_callee aYY aBB aMX aRR 80 := ⟨tW1 35 rfl rfl, tW1 2 rfl rfl, by decide +kernel, by decide +kernel, by decide +kernel⟩
set_option maxRecDepth 100000 in
theorem ca_Scene_has : a_callee aYY aBB aMX aRR 81 := ⟨tW2 232 rfl rfl, tW1 2 rfl rfl, by decide +kernel, by decide +kernel, by decide +kernel⟩
set_option maxRecDepth 100000 in
theorem ca_Scene_isOn : a_callee aYY aBB aMX aRR 82 := ⟨tW3 28 rfl rfl, tW1 2 rfl rfl, by decide +kernel, by decide +kernel, by decide +kernel⟩
set_option maxRecDepth 100000 in
theorem ca_Scene_depth : a_callee aYY aBB aMX aRR 83 := ⟨tW3 36 rfl rfl, tW1 2 rfl rfl, by decide +kernel, by decide +kernel, by decide +kernel⟩
set_option maxRecDepth 100000 in
theorem ca_Scene_onBits : a_callee aYY aBB aMX aRR 84 := ⟨tW4 59 rfl rfl, tW1 2 rfl rfl, by decide +kernel, by decide +kernel, by decide +kernel⟩
set_option maxRecDepth 100000 in
theorem ca_Scene_put : a_callee aYY aBB aMX aRR 85 := ⟨tW3 19 rfl rfl, tW1 2 rfl rfl, by decide +kernel, by decide +kernel, by decide +kernel⟩
set_option maxRecDepth 100000 in
theorem ca_Scene_stays : a_callee aYY aBB aMX aRR 86 := ⟨tW4 81 rfl rfl, tW1 2 rfl rfl, by decide +kernel, by decide +kernel, by decide +kernel⟩
set_option maxRecDepth 100000 in
theorem ca_Scene_toldCells : a_callee aYY aBB aMX aRR 87 := ⟨tW3 65 rfl rfl, tW1 2 rfl rfl, by decide +kernel, by decide +kernel, by decide +kernel⟩
set_option maxRecDepth 100000 in
theorem ca_Scene_takeFrom : a_callee aYY aBB aMX aRR 88 := ⟨tW5 201 rfl rfl, tW1 2 rfl rfl, by decide +kernel, by decide +kernel, by decide +kernel⟩
set_option maxRecDepth 100000 in
theorem ca_Script_init : a_callee aYY aBB aMX aRR 89 := ⟨tW1 50 rfl rfl, tW1 3 rfl rfl, by decide +kernel, by decide +kernel, by decide +kernel⟩
set_option maxRecDepth 100000 in
theorem ca_Script_clear : a_callee aYY aBB aMX aRR 90 := ⟨tW3 104 rfl rfl, tW1 3 rfl rfl, by decide +kernel, by decide +kernel, by decide +kernel⟩
set_option maxRecDepth 100000 in
theorem ca_Script_add : a_callee aYY aBB aMX aRR 91 := ⟨tW3 217 rfl rfl, tW1 3 rfl rfl, by decide +kernel, by decide +kernel, by decide +kernel⟩
set_option maxRecDepth 100000 in
theorem ca_Script_jumpToHere : a_callee aYY aBB aMX aRR 92 := ⟨tW3 225 rfl rfl, tW1 3 rfl rfl, by decide +kernel, by decide +kernel, by decide +kernel⟩
set_option maxRecDepth 100000 in
theorem ca_Script_startLaw : a_callee aYY aBB aMX aRR 93 := ⟨tW3 193 rfl rfl, tW1 3 rfl rfl, by decide +kernel, by decide +kernel, by decide +kernel⟩
set_option maxRecDepth 100000 in
theorem ca_Script_startTest : a_callee aYY aBB aMX aRR 94 := ⟨tW3 229 rfl rfl, tW1 3 rfl rfl, by decide +kernel, by decide +kernel, by decide +kernel⟩
set_option maxRecDepth 100000 in
theorem ca_Script_endLaw : a_callee aYY aBB aMX aRR 95 := ⟨tW3 233 rfl rfl, tW1 3 rfl rfl, by decide +kernel, by decide +kernel, by decide +kernel⟩
set_option maxRecDepth 100000 in
theorem ca_Script_takeFrom : a_callee aYY aBB aMX aRR 96 := ⟨tW3 237 rfl rfl, tW1 3 rfl rfl, by decide +kernel, by decide +kernel, by decide +kernel⟩
set_option maxRecDepth 100000 in
theorem ca_Target_init : a_callee aYY aBB aMX aRR 97 := ⟨tW2 73 rfl rfl, tW1 10 rfl rfl, by decide +kernel, by decide +kernel, by decide +kernel⟩
set_option maxRecDepth 100000 in
theorem ca_Target_lookAt : a_callee aYY aBB aMX aRR 98 := ⟨tW5 28 rfl rfl, tW1 10 rfl rfl, by decide +kernel, by decide +kernel, by decide +kernel⟩
set_option maxRecDepth 100000 in
theorem ca_Target_lookFrom : a_callee aYY aBB aMX aRR 99 := ⟨tW5 34 rfl rfl, tW1 10 rfl rfl, by decide +kernel, by decide +kernel, by decide +kernel⟩
set_option maxRecDepth 100000 in
theorem ca_Cp_init : a_callee aYY aBB aMX aRR 100 := ⟨tW1 27 rfl rfl, tW1 1 rfl rfl, by decide +kernel, by decide +kernel, by decide +kernel⟩
set_option maxRecDepth 100000 in
theorem ca_Cp_figure : a_callee aYY aBB aMX aRR 101 := ⟨tW2 208 rfl rfl, tW1 1 rfl rfl, by decide +kernel, by decide +kernel, by decide +kernel⟩
set_option maxRecDepth 100000 in
theorem ca_Cp_sticks : a_callee aYY aBB aMX aRR 102 := ⟨tW2 228 rfl rfl, tW1 1 rfl rfl, by decide +kernel, by decide +kernel, by decide +kernel⟩
set_option maxRecDepth 100000 in
theorem ca_Cp_terms : a_callee aYY aBB aMX aRR 103 := ⟨tW2 236 rfl rfl, tW1 1 rfl rfl, by decide +kernel, by decide +kernel, by decide +kernel⟩
set_option maxRecDepth 100000 in
theorem ca_Cp_on : a_callee aYY aBB aMX aRR 104 := ⟨tW3 12 rfl rfl, tW1 1 rfl rfl, by decide +kernel, by decide +kernel, by decide +kernel⟩
set_option maxRecDepth 100000 in
theorem ca_Cp_off : a_callee aYY aBB aMX aRR 105 := ⟨tW3 24 rfl rfl, tW1 1 rfl rfl, by decide +kernel, by decide +kernel, by decide +kernel⟩
set_option maxRecDepth 100000 in
theorem ca_Cp_of : a_callee aYY aBB aMX aRR 106 := ⟨tW3 32 rfl rfl, tW1 1 rfl rfl, by decide +kernel, by decide +kernel, by decide +kernel⟩
set_option maxRecDepth 100000 in
theorem ca_Cp_feed : a_callee aYY aBB aMX aRR 107 := ⟨tW3 44 rfl rfl, tW1 1 rfl rfl, by decide +kernel, by decide +kernel, by decide +kernel⟩
set_option maxRecDepth 100000 in
theorem ca_Cp_end : a_callee aYY aBB aMX aRR 108 := ⟨tW3 52 rfl rfl, tW1 1 rfl rfl, by decide +kernel, by decide +kernel, by decide +kernel⟩
set_option maxRecDepth 100000 in
theorem ca_Cp_row : a_callee aYY aBB aMX aRR 109 := ⟨tW3 56 rfl rfl, tW1 1 rfl rfl, by decide +kernel, by decide +kernel, by decide +kernel⟩
set_option maxRecDepth 100000 in
theorem ca_Cp_torn : a_callee aYY aBB aMX aRR 110 := ⟨tW3 83 rfl rfl, tW1 1 rfl rfl, by decide +kernel, by decide +kernel, by decide +kernel⟩
set_option maxRecDepth 100000 in
theorem ca_Cp_outline : a_callee aYY aBB aMX aRR 111 := ⟨tW3 87 rfl rfl, tW1 1 rfl rfl, by decide +kernel, by decide +kernel, by decide +kernel⟩
set_option maxRecDepth 100000 in
theorem ca_Cp_play : a_callee aYY aBB aMX aRR 112 := ⟨tW3 91 rfl rfl, tW1 1 rfl rfl, by decide +kernel, by decide +kernel, by decide +kernel⟩
set_option maxRecDepth 100000 in
theorem ca_Cp_fault : a_callee aYY aBB aMX aRR 113 := ⟨tW4 11 rfl rfl, tW1 1 rfl rfl, by decide +kernel, by decide +kernel, by decide +kernel⟩
set_option maxRecDepth 100000 in
theorem ca_Cp_shadow : a_callee aYY aBB aMX aRR 114 := ⟨tW4 15 rfl rfl, tW1 1 rfl rfl, by decide +kernel, by decide +kernel, by decide +kernel⟩
set_option maxRecDepth 100000 in
theorem ca_Cp_seen : a_callee aYY aBB aMX aRR 115 := ⟨tW4 34 rfl rfl, tW1 1 rfl rfl, by decide +kernel, by decide +kernel, by decide +kernel⟩
set_option maxRecDepth 100000 in
theorem ca_Cp_common : a_callee aYY aBB aMX aRR 116 := ⟨tW4 51 rfl rfl, tW1 1 rfl rfl, by decide +kernel, by decide +kernel, by decide +kernel⟩
set_option maxRecDepth 100000 in
theorem ca_Cp_holds : a_callee aYY aBB aMX aRR 117 := ⟨tW4 55 rfl rfl, tW1 1 rfl rfl, by decide +kernel, by decide +kernel, by decide +kernel⟩
set_option maxRecDepth 100000 in
theorem ca_Cp_holdings : a_callee aYY aBB aMX aRR 118 := ⟨tW4 128 rfl rfl, tW1 1 rfl rfl, by decide +kernel, by decide +kernel, by decide +kernel⟩
set_option maxRecDepth 100000 in
theorem ca_Cp_least : a_callee aYY aBB aMX aRR 119 := ⟨tW4 140 rfl rfl, tW1 1 rfl rfl, by decide +kernel, by decide +kernel, by decide +kernel⟩
set_option maxRecDepth 100000 in
theorem ca_Cp_holder : a_callee aYY aBB aMX aRR 120 := ⟨tW4 225 rfl rfl, tW1 1 rfl rfl, by decide +kernel, by decide +kernel, by decide +kernel⟩
set_option maxRecDepth 100000 in
theorem ca_Cp_passed : a_callee aYY aBB aMX aRR 121 := ⟨tW4 234 rfl rfl, tW1 1 rfl rfl, by decide +kernel, by decide +kernel, by decide +kernel⟩
set_option maxRecDepth 100000 in
theorem ca_Cp_fewest : a_callee aYY aBB aMX aRR 122 := ⟨tW5 3 rfl rfl, tW1 1 rfl rfl, by decide +kernel, by decide +kernel, by decide +kernel⟩
set_option maxRecDepth 100000 in
theorem ca_Cp_barred : a_callee aYY aBB aMX aRR 123 := ⟨tW5 8 rfl rfl, tW1 1 rfl rfl, by decide +kernel, by decide +kernel, by decide +kernel⟩
set_option maxRecDepth 100000 in
theorem ca_Cp_made : a_callee aYY aBB aMX aRR 124 := ⟨tW5 16 rfl rfl, tW1 1 rfl rfl, by decide +kernel, by decide +kernel, by decide +kernel⟩
set_option maxRecDepth 100000 in
theorem ca_Cp_who : a_callee aYY aBB aMX aRR 125 := ⟨tW5 166 rfl rfl, tW1 1 rfl rfl, by decide +kernel, by decide +kernel, by decide +kernel⟩
set_option maxRecDepth 100000 in
theorem ca_Cp_sheet : a_callee aYY aBB aMX aRR 126 := ⟨tW5 174 rfl rfl, tW1 1 rfl rfl, by decide +kernel, by decide +kernel, by decide +kernel⟩
set_option maxRecDepth 100000 in
theorem ca_Cp_copy : a_callee aYY aBB aMX aRR 127 := ⟨tW5 178 rfl rfl, tW1 1 rfl rfl, by decide +kernel, by decide +kernel, by decide +kernel⟩
set_option maxRecDepth 100000 in
theorem ca_Cp_show : a_callee aYY aBB aMX aRR 128 := ⟨tW5 182 rfl rfl, tW1 1 rfl rfl, by decide +kernel, by decide +kernel, by decide +kernel⟩
set_option maxRecDepth 100000 in
theorem ca_Cp_slipped : a_callee aYY aBB aMX aRR 129 := ⟨tW5 193 rfl rfl, tW1 1 rfl rfl, by decide +kernel, by decide +kernel, by decide +kernel⟩
set_option maxRecDepth 100000 in
theorem ca_Cp_image : a_callee aYY aBB aMX aRR 130 := ⟨tW5 197 rfl rfl, tW1 1 rfl rfl, by decide +kernel, by decide +kernel, by decide +kernel⟩
set_option maxRecDepth 100000 in
theorem ca_Cp_back : a_callee aYY aBB aMX aRR 131 := ⟨tW5 207 rfl rfl, tW1 1 rfl rfl, by decide +kernel, by decide +kernel, by decide +kernel⟩
set_option maxRecDepth 100000 in
theorem ca_Cp_count : a_callee aYY aBB aMX aRR 132 := ⟨tW5 211 rfl rfl, tW1 1 rfl rfl, by decide +kernel, by decide +kernel, by decide +kernel⟩
set_option maxRecDepth 100000 in
theorem ca_Cp_status : a_callee aYY aBB aMX aRR 133 := ⟨tW5 219 rfl rfl, tW1 1 rfl rfl, by decide +kernel, by decide +kernel, by decide +kernel⟩
set_option maxRecDepth 100000 in
theorem ca_Cp_isBeat : a_callee aYY aBB aMX aRR 134 := ⟨tW3 15 rfl rfl, tW1 1 rfl rfl, by decide +kernel, by decide +kernel, by decide +kernel⟩
set_option maxRecDepth 100000 in
theorem ca_Cp_refuse : a_callee aYY aBB aMX aRR 135 := ⟨tW2 212 rfl rfl, tW1 1 rfl rfl, by decide +kernel, by decide +kernel, by decide +kernel⟩
set_option maxRecDepth 100000 in
theorem ca_Cp_accept : a_callee aYY aBB aMX aRR 136 := ⟨tW2 224 rfl rfl, tW1 1 rfl rfl, by decide +kernel, by decide +kernel, by decide +kernel⟩
set_option maxRecDepth 100000 in
theorem ca_Cp_changeHands : a_callee aYY aBB aMX aRR 137 := ⟨tW2 216 rfl rfl, tW1 1 rfl rfl, by decide +kernel, by decide +kernel, by decide +kernel⟩
set_option maxRecDepth 100000 in
theorem ca_Cp_changeCast : a_callee aYY aBB aMX aRR 138 := ⟨tW3 4 rfl rfl, tW1 1 rfl rfl, by decide +kernel, by decide +kernel, by decide +kernel⟩
set_option maxRecDepth 100000 in
theorem ca_Cp_canBeAsked : a_callee aYY aBB aMX aRR 139 := ⟨tW5 20 rfl rfl, tW1 1 rfl rfl, by decide +kernel, by decide +kernel, by decide +kernel⟩
set_option maxRecDepth 100000 in
theorem ca_Cp_writeWord : a_callee aYY aBB aMX aRR 140 := ⟨tW3 48 rfl rfl, tW1 1 rfl rfl, by decide +kernel, by decide +kernel, by decide +kernel⟩
set_option maxRecDepth 100000 in
theorem ca_Cp_takeOutline : a_callee aYY aBB aMX aRR 141 := ⟨tW3 75 rfl rfl, tW1 1 rfl rfl, by decide +kernel, by decide +kernel, by decide +kernel⟩
set_option maxRecDepth 100000 in
theorem ca_Cp_takeSheet : a_callee aYY aBB aMX aRR 142 := ⟨tW3 60 rfl rfl, tW1 1 rfl rfl, by decide +kernel, by decide +kernel, by decide +kernel⟩
set_option maxRecDepth 100000 in
theorem ca_Cp_countBeats : a_callee aYY aBB aMX aRR 143 := ⟨tW5 215 rfl rfl, tW1 1 rfl rfl, by decide +kernel, by decide +kernel, by decide +kernel⟩
set_option maxRecDepth 100000 in
theorem ca_Mo_init : a_callee aYY aBB aMX aRR 144 := ⟨tW5 224 rfl rfl, tW1 11 rfl rfl, by decide +kernel, by decide +kernel, by decide +kernel⟩
set_option maxRecDepth 100000 in
theorem ca_Mo_in : a_callee aYY aBB aMX aRR 145 := ⟨tW6 188 rfl rfl, tW1 11 rfl rfl, by decide +kernel, by decide +kernel, by decide +kernel⟩
set_option maxRecDepth 100000 in
theorem ca_Mo_is : a_callee aYY aBB aMX aRR 146 := ⟨tW7 194 rfl rfl, tW1 11 rfl rfl, by decide +kernel, by decide +kernel, by decide +kernel⟩
set_option maxRecDepth 100000 in
theorem ca_Mo_tell : a_callee aYY aBB aMX aRR 147 := ⟨tW6 192 rfl rfl, tW1 11 rfl rfl, by decide +kernel, by decide +kernel, by decide +kernel⟩
set_option maxRecDepth 100000 in
theorem ca_Mo_was : a_callee aYY aBB aMX aRR 148 := ⟨tW6 217 rfl rfl, tW1 11 rfl rfl, by decide +kernel, by decide +kernel, by decide +kernel⟩
set_option maxRecDepth 100000 in
theorem ca_Mo_change : a_callee aYY aBB aMX aRR 149 := ⟨tW6 213 rfl rfl, tW1 11 rfl rfl, by decide +kernel, by decide +kernel, by decide +kernel⟩
set_option maxRecDepth 100000 in
theorem ca_Mo_image : a_callee aYY aBB aMX aRR 150 := ⟨tW6 185 rfl rfl, tW1 11 rfl rfl, by decide +kernel, by decide +kernel, by decide +kernel⟩
set_option maxRecDepth 100000 in
theorem ca_Mo_back : a_callee aYY aBB aMX aRR 151 := ⟨tW6 196 rfl rfl, tW1 11 rfl rfl, by decide +kernel, by decide +kernel, by decide +kernel⟩
set_option maxRecDepth 100000 in
theorem ca_Mo_isFigure : a_callee aYY aBB aMX aRR 152 := ⟨tW6 209 rfl rfl, tW1 11 rfl rfl, by decide +kernel, by decide +kernel, by decide +kernel⟩
set_option maxRecDepth 100000 in
theorem ca_Mo_isBeat : a_callee aYY aBB aMX aRR 153 := ⟨tW6 236 rfl rfl, tW1 11 rfl rfl, by decide +kernel, by decide +kernel, by decide +kernel⟩
set_option maxRecDepth 100000 in
theorem ca_Mo_term : a_callee aYY aBB aMX aRR 154 := ⟨tW7 26 rfl rfl, tW1 11 rfl rfl, by decide +kernel, by decide +kernel, by decide +kernel⟩
set_option maxRecDepth 100000 in
theorem ca_Mo_placeOf : a_callee aYY aBB aMX aRR 155 := ⟨tW7 10 rfl rfl, tW1 11 rfl rfl, by decide +kernel, by decide +kernel, by decide +kernel⟩
set_option maxRecDepth 100000 in
theorem ca_Mo_isOn : a_callee aYY aBB aMX aRR 156 := ⟨tW7 18 rfl rfl, tW1 11 rfl rfl, by decide +kernel, by decide +kernel, by decide +kernel⟩
set_option maxRecDepth 100000 in
theorem ca_Mo_deepOf : a_callee aYY aBB aMX aRR 157 := ⟨tW7 22 rfl rfl, tW1 11 rfl rfl, by decide +kernel, by decide +kernel, by decide +kernel⟩
set_option maxRecDepth 100000 in
theorem ca_Mo_figure : a_callee aYY aBB aMX aRR 158 := ⟨tW6 200 rfl rfl, tW1 11 rfl rfl, by decide +kernel, by decide +kernel, by decide +kernel⟩
set_option maxRecDepth 100000 in
theorem ca_Mo_sticks : a_callee aYY aBB aMX aRR 159 := ⟨tW6 205 rfl rfl, tW1 11 rfl rfl, by decide +kernel, by decide +kernel, by decide +kernel⟩
set_option maxRecDepth 100000 in
theorem ca_Mo_isTerm : a_callee aYY aBB aMX aRR 160 := ⟨tW6 224 rfl rfl, tW1 11 rfl rfl, by decide +kernel, by decide +kernel, by decide +kernel⟩
set_option maxRecDepth 100000 in
theorem ca_Mo_terms : a_callee aYY aBB aMX aRR 161 := ⟨tW6 221 rfl rfl, tW1 11 rfl rfl, by decide +kernel, by decide +kernel, by decide +kernel⟩
set_option maxRecDepth 100000 in
theorem ca_Mo_put : a_callee aYY aBB aMX aRR 162 := ⟨tW7 2 rfl rfl, tW1 11 rfl rfl, by decide +kernel, by decide +kernel, by decide +kernel⟩
set_option maxRecDepth 100000 in
theorem ca_Mo_on : a_callee aYY aBB aMX aRR 163 := ⟨tW6 233 rfl rfl, tW1 11 rfl rfl, by decide +kernel, by decide +kernel, by decide +kernel⟩
set_option maxRecDepth 100000 in
theorem ca_Mo_off : a_callee aYY aBB aMX aRR 164 := ⟨tW7 6 rfl rfl, tW1 11 rfl rfl, by decide +kernel, by decide +kernel, by decide +kernel⟩
set_option maxRecDepth 100000 in
theorem ca_Mo_of : a_callee aYY aBB aMX aRR 165 := ⟨tW7 14 rfl rfl, tW1 11 rfl rfl, by decide +kernel, by decide +kernel, by decide +kernel⟩
set_option maxRecDepth 100000 in
theorem ca_Mo_bits : a_callee aYY aBB aMX aRR 166 := ⟨tW7 33 rfl rfl, tW1 11 rfl rfl, by decide +kernel, by decide +kernel, by decide +kernel⟩
set_option maxRecDepth 100000 in
theorem ca_Mo_row : a_callee aYY aBB aMX aRR 167 := ⟨tW7 30 rfl rfl, tW1 11 rfl rfl, by decide +kernel, by decide +kernel, by decide +kernel⟩
set_option maxRecDepth 100000 in
theorem ca_Mo_torn : a_callee aYY aBB aMX aRR 168 := ⟨tW7 37 rfl rfl, tW1 11 rfl rfl, by decide +kernel, by decide +kernel, by decide +kernel⟩
set_option maxRecDepth 100000 in
theorem ca_Mo_outline : a_callee aYY aBB aMX aRR 169 := ⟨tW7 41 rfl rfl, tW1 11 rfl rfl, by decide +kernel, by decide +kernel, by decide +kernel⟩
set_option maxRecDepth 100000 in
theorem ca_Mo_sheet : a_callee aYY aBB aMX aRR 170 := ⟨tW7 46 rfl rfl, tW1 11 rfl rfl, by decide +kernel, by decide +kernel, by decide +kernel⟩
set_option maxRecDepth 100000 in
theorem ca_Mo_four : a_callee aYY aBB aMX aRR 171 := ⟨tW7 54 rfl rfl, tW1 11 rfl rfl, by decide +kernel, by decide +kernel, by decide +kernel⟩
set_option maxRecDepth 100000 in
theorem ca_Mo_feed : a_callee aYY aBB aMX aRR 172 := ⟨tW7 50 rfl rfl, tW1 11 rfl rfl, by decide +kernel, by decide +kernel, by decide +kernel⟩
set_option maxRecDepth 100000 in
theorem ca_Mo_end : a_callee aYY aBB aMX aRR 173 := ⟨tW7 58 rfl rfl, tW1 11 rfl rfl, by decide +kernel, by decide +kernel, by decide +kernel⟩
set_option maxRecDepth 100000 in
theorem ca_Mo_isSmall : a_callee aYY aBB aMX aRR 174 := ⟨tW7 77 rfl rfl, tW1 11 rfl rfl, by decide +kernel, by decide +kernel, by decide +kernel⟩
set_option maxRecDepth 100000 in
theorem ca_Mo_isDigit : a_callee aYY aBB aMX aRR 175 := ⟨tW7 80 rfl rfl, tW1 11 rfl rfl, by decide +kernel, by decide +kernel, by decide +kernel⟩
set_option maxRecDepth 100000 in
theorem ca_Mo_begin : a_callee aYY aBB aMX aRR 176 := ⟨tW7 70 rfl rfl, tW1 11 rfl rfl, by decide +kernel, by decide +kernel, by decide +kernel⟩
set_option maxRecDepth 100000 in
theorem ca_Mo_next : a_callee aYY aBB aMX aRR 177 := ⟨tW7 74 rfl rfl, tW1 11 rfl rfl, by decide +kernel, by decide +kernel, by decide +kernel⟩
set_option maxRecDepth 100000 in
theorem ca_Mo_isWord : a_callee aYY aBB aMX aRR 178 := ⟨tW7 93 rfl rfl, tW1 11 rfl rfl, by decide +kernel, by decide +kernel, by decide +kernel⟩
set_option maxRecDepth 100000 in
theorem ca_Mo_isSign : a_callee aYY aBB aMX aRR 179 := ⟨tW7 116 rfl rfl, tW1 11 rfl rfl, by decide +kernel, by decide +kernel, by decide +kernel⟩
set_option maxRecDepth 100000 in
theorem ca_Mo_must : a_callee aYY aBB aMX aRR 180 := ⟨tW7 100 rfl rfl, tW1 11 rfl rfl, by decide +kernel, by decide +kernel, by decide +kernel⟩
set_option maxRecDepth 100000 in
theorem ca_Mo_number : a_callee aYY aBB aMX aRR 181 := ⟨tW7 108 rfl rfl, tW1 11 rfl rfl, by decide +kernel, by decide +kernel, by decide +kernel⟩
set_option maxRecDepth 100000 in
theorem ca_Mo_fault : a_callee aYY aBB aMX aRR 182 := ⟨tW7 62 rfl rfl, tW1 11 rfl rfl, by decide +kernel, by decide +kernel, by decide +kernel⟩
set_option maxRecDepth 100000 in
theorem ca_Mo_emit : a_callee aYY aBB aMX aRR 183 := ⟨tW7 150 rfl rfl, tW1 11 rfl rfl, by decide +kernel, by decide +kernel, by decide +kernel⟩
set_option maxRecDepth 100000 in
theorem ca_Mo_push : a_callee aYY aBB aMX aRR 184 := ⟨tW7 129 rfl rfl, tW1 11 rfl rfl, by decide +kernel, by decide +kernel, by decide +kernel⟩
set_option maxRecDepth 100000 in
theorem ca_Mo_binds : a_callee aYY aBB aMX aRR 185 := ⟨tW7 157 rfl rfl, tW1 11 rfl rfl, by decide +kernel, by decide +kernel, by decide +kernel⟩
set_option maxRecDepth 100000 in
theorem ca_Mo_settle : a_callee aYY aBB aMX aRR 186 := ⟨tW7 161 rfl rfl, tW1 11 rfl rfl, by decide +kernel, by decide +kernel, by decide +kernel⟩
set_option maxRecDepth 100000 in
theorem ca_Mo_inner : a_callee aYY aBB aMX aRR 187 := ⟨tW7 165 rfl rfl, tW1 11 rfl rfl, by decide +kernel, by decide +kernel, by decide +kernel⟩
set_option maxRecDepth 100000 in
theorem ca_Mo_isCompared : a_callee aYY aBB aMX aRR 188 := ⟨tW7 169 rfl rfl, tW1 11 rfl rfl, by decide +kernel, by decide +kernel, by decide +kernel⟩
set_option maxRecDepth 100000 in
theorem ca_Mo_partAt : a_callee aYY aBB aMX aRR 189 := ⟨tW7 141 rfl rfl, tW1 11 rfl rfl, by decide +kernel, by decide +kernel, by decide +kernel⟩
set_option maxRecDepth 100000 in
theorem ca_Mo_openBracket : a_callee aYY aBB aMX aRR 190 := ⟨tW7 133 rfl rfl, tW1 11 rfl rfl, by decide +kernel, by decide +kernel, by decide +kernel⟩
set_option maxRecDepth 100000 in
theorem ca_Mo_leaf : a_callee aYY aBB aMX aRR 191 := ⟨tW7 146 rfl rfl, tW1 11 rfl rfl, by decide +kernel, by decide +kernel, by decide +kernel⟩
set_option maxRecDepth 100000 in
theorem ca_Mo_readPart : a_callee aYY aBB aMX aRR 192 := ⟨tW7 137 rfl rfl, tW1 11 rfl rfl, by decide +kernel, by decide +kernel, by decide +kernel⟩
set_option maxRecDepth 100000 in
theorem ca_Mo_readPlain : a_callee aYY aBB aMX aRR 193 := ⟨tW7 124 rfl rfl, tW1 11 rfl rfl, by decide +kernel, by decide +kernel, by decide +kernel⟩
set_option maxRecDepth 100000 in
theorem ca_Mo_behindSum : a_callee aYY aBB aMX aRR 194 := ⟨tW7 154 rfl rfl, tW1 11 rfl rfl, by decide +kernel, by decide +kernel, by decide +kernel⟩
set_option maxRecDepth 100000 in
theorem ca_Mo_behindTest : a_callee aYY aBB aMX aRR 195 := ⟨tW7 176 rfl rfl, tW1 11 rfl rfl, by decide +kernel, by decide +kernel, by decide +kernel⟩
set_option maxRecDepth 100000 in
theorem ca_Mo_readExpression : a_callee aYY aBB aMX aRR 196 := ⟨tW7 120 rfl rfl, tW1 11 rfl rfl, by decide +kernel, by decide +kernel, by decide +kernel⟩
set_option maxRecDepth 100000 in
theorem ca_Mo_readBeat : a_callee aYY aBB aMX aRR 197 := ⟨tW7 104 rfl rfl, tW1 11 rfl rfl, by decide +kernel, by decide +kernel, by decide +kernel⟩
set_option maxRecDepth 100000 in
theorem ca_Mo_readClause : a_callee aYY aBB aMX aRR 198 := ⟨tW7 89 rfl rfl, tW1 11 rfl rfl, by decide +kernel, by decide +kernel, by decide +kernel⟩
set_option maxRecDepth 100000 in
theorem ca_Mo_play : a_callee aYY aBB aMX aRR 199 := ⟨tW7 66 rfl rfl, tW1 11 rfl rfl, by decide +kernel, by decide +kernel, by decide +kernel⟩
set_option maxRecDepth 100000 in
theorem ca_Mo_reckon : a_callee aYY aBB aMX aRR 200 := ⟨tW7 235 rfl rfl, tW1 11 rfl rfl, by decide +kernel, by decide +kernel, by decide +kernel⟩
set_option maxRecDepth 100000 in
theorem ca_Mo_reckonAll : a_callee aYY aBB aMX aRR 201 := ⟨tW7 231 rfl rfl, tW1 11 rfl rfl, by decide +kernel, by decide +kernel, by decide +kernel⟩
set_option maxRecDepth 100000 in
theorem ca_Mo_isSo : a_callee aYY aBB aMX aRR 202 := ⟨tW7 227 rfl rfl, tW1 11 rfl rfl, by decide +kernel, by decide +kernel, by decide +kernel⟩
set_option maxRecDepth 100000 in
theorem ca_Mo_tells : a_callee aYY aBB aMX aRR 203 := ⟨tW7 223 rfl rfl, tW1 11 rfl rfl, by decide +kernel, by decide +kernel, by decide +kernel⟩
set_option maxRecDepth 100000 in
theorem ca_Mo_shadowRow : a_callee aYY aBB aMX aRR 204 := ⟨tW7 191 rfl rfl, tW1 11 rfl rfl, by decide +kernel, by decide +kernel, by decide +kernel⟩
set_option maxRecDepth 100000 in
theorem ca_Mo_allRow : a_callee aYY aBB aMX aRR 205 := ⟨tW7 187 rfl rfl, tW1 11 rfl rfl, by decide +kernel, by decide +kernel, by decide +kernel⟩
set_option maxRecDepth 100000 in
theorem ca_Mo_shadow : a_callee aYY aBB aMX aRR 206 := ⟨tW7 183 rfl rfl, tW1 11 rfl rfl, by decide +kernel, by decide +kernel, by decide +kernel⟩
set_option maxRecDepth 100000 in
theorem ca_Mo_seen : a_callee aYY aBB aMX aRR 207 := ⟨tW7 198 rfl rfl, tW1 11 rfl rfl, by decide +kernel, by decide +kernel, by decide +kernel⟩
set_option maxRecDepth 100000 in
theorem ca_Mo_common : a_callee aYY aBB aMX aRR 208 := ⟨tW7 202 rfl rfl, tW1 11 rfl rfl, by decide +kernel, by decide +kernel, by decide +kernel⟩
set_option maxRecDepth 100000 in
theorem ca_Mo_copy : a_callee aYY aBB aMX aRR 209 := ⟨tW7 206 rfl rfl, tW1 11 rfl rfl, by decide +kernel, by decide +kernel, by decide +kernel⟩
set_option maxRecDepth 100000 in
theorem ca_Mo_canHold : a_callee aYY aBB aMX aRR 210 := ⟨tW7 219 rfl rfl, tW1 11 rfl rfl, by decide +kernel, by decide +kernel, by decide +kernel⟩
set_option maxRecDepth 100000 in
theorem ca_Mo_isNear : a_callee aYY aBB aMX aRR 211 := ⟨tW8 5 rfl rfl, tW1 11 rfl rfl, by decide +kernel, by decide +kernel, by decide +kernel⟩
set_option maxRecDepth 100000 in
theorem ca_Mo_isStill : a_callee aYY aBB aMX aRR 212 := ⟨tW8 1 rfl rfl, tW1 11 rfl rfl, by decide +kernel, by decide +kernel, by decide +kernel⟩
set_option maxRecDepth 100000 in
theorem ca_Mo_onBits : a_callee aYY aBB aMX aRR 213 := ⟨tW7 215 rfl rfl, tW1 11 rfl rfl, by decide +kernel, by decide +kernel, by decide +kernel⟩
set_option maxRecDepth 100000 in
theorem ca_Mo_holds : a_callee aYY aBB aMX aRR 214 := ⟨tW7 210 rfl rfl, tW1 11 rfl rfl, by decide +kernel, by decide +kernel, by decide +kernel⟩
set_option maxRecDepth 100000 in
theorem ca_Mo_findCan : a_callee aYY aBB aMX aRR 215 := ⟨tW8 17 rfl rfl, tW1 11 rfl rfl, by decide +kernel, by decide +kernel, by decide +kernel⟩
set_option maxRecDepth 100000 in
theorem ca_Mo_holderIn : a_callee aYY aBB aMX aRR 216 := ⟨tW8 24 rfl rfl, tW1 11 rfl rfl, by decide +kernel, by decide +kernel, by decide +kernel⟩
set_option maxRecDepth 100000 in
theorem ca_Mo_isHolding : a_callee aYY aBB aMX aRR 217 := ⟨tW8 21 rfl rfl, tW1 11 rfl rfl, by decide +kernel, by decide +kernel, by decide +kernel⟩
set_option maxRecDepth 100000 in
theorem ca_Mo_holdingsOf : a_callee aYY aBB aMX aRR 218 := ⟨tW8 13 rfl rfl, tW1 11 rfl rfl, by decide +kernel, by decide +kernel, by decide +kernel⟩
set_option maxRecDepth 100000 in
theorem ca_Mo_holdings : a_callee aYY aBB aMX aRR 219 := ⟨tW8 9 rfl rfl, tW1 11 rfl rfl, by decide +kernel, by decide +kernel, by decide +kernel⟩
set_option maxRecDepth 100000 in
theorem ca_Mo_findLeast : a_callee aYY aBB aMX aRR 220 := ⟨tW8 32 rfl rfl, tW1 11 rfl rfl, by decide +kernel, by decide +kernel, by decide +kernel⟩
set_option maxRecDepth 100000 in
theorem ca_Mo_reckonBeat : a_callee aYY aBB aMX aRR 221 := ⟨tW8 36 rfl rfl, tW1 11 rfl rfl, by decide +kernel, by decide +kernel, by decide +kernel⟩
set_option maxRecDepth 100000 in
theorem ca_Mo_backFigure : a_callee aYY aBB aMX aRR 222 := ⟨tW8 40 rfl rfl, tW1 11 rfl rfl, by decide +kernel, by decide +kernel, by decide +kernel⟩
set_option maxRecDepth 100000 in
theorem ca_Mo_passedBetween : a_callee aYY aBB aMX aRR 223 := ⟨tW8 50 rfl rfl, tW1 11 rfl rfl, by decide +kernel, by decide +kernel, by decide +kernel⟩
set_option maxRecDepth 100000 in
theorem ca_Mo_findFirst : a_callee aYY aBB aMX aRR 224 := ⟨tW8 46 rfl rfl, tW1 11 rfl rfl, by decide +kernel, by decide +kernel, by decide +kernel⟩
set_option maxRecDepth 100000 in
theorem ca_Mo_least : a_callee aYY aBB aMX aRR 225 := ⟨tW8 28 rfl rfl, tW1 11 rfl rfl, by decide +kernel, by decide +kernel, by decide +kernel⟩
set_option maxRecDepth 100000 in
theorem ca_Mo_holder : a_callee aYY aBB aMX aRR 226 := ⟨tW8 54 rfl rfl, tW1 11 rfl rfl, by decide +kernel, by decide +kernel, by decide +kernel⟩
set_option maxRecDepth 100000 in
theorem ca_Mo_passed : a_callee aYY aBB aMX aRR 227 := ⟨tW8 58 rfl rfl, tW1 11 rfl rfl, by decide +kernel, by decide +kernel, by decide +kernel⟩
set_option maxRecDepth 100000 in
theorem ca_Mo_fewest : a_callee aYY aBB aMX aRR 228 := ⟨tW8 62 rfl rfl, tW1 11 rfl rfl, by decide +kernel, by decide +kernel, by decide +kernel⟩
set_option maxRecDepth 100000 in
theorem ca_Mo_barred : a_callee aYY aBB aMX aRR 229 := ⟨tW8 66 rfl rfl, tW1 11 rfl rfl, by decide +kernel, by decide +kernel, by decide +kernel⟩
set_option maxRecDepth 100000 in
theorem ca_Mo_findCells : a_callee aYY aBB aMX aRR 230 := ⟨tW8 78 rfl rfl, tW1 11 rfl rfl, by decide +kernel, by decide +kernel, by decide +kernel⟩
set_option maxRecDepth 100000 in
theorem ca_Mo_findShadows : a_callee aYY aBB aMX aRR 231 := ⟨tW8 86 rfl rfl, tW1 11 rfl rfl, by decide +kernel, by decide +kernel, by decide +kernel⟩
set_option maxRecDepth 100000 in
theorem ca_Mo_tryPlace : a_callee aYY aBB aMX aRR 232 := ⟨tW8 90 rfl rfl, tW1 11 rfl rfl, by decide +kernel, by decide +kernel, by decide +kernel⟩
set_option maxRecDepth 100000 in
theorem ca_Mo_findMade : a_callee aYY aBB aMX aRR 233 := ⟨tW8 82 rfl rfl, tW1 11 rfl rfl, by decide +kernel, by decide +kernel, by decide +kernel⟩
set_option maxRecDepth 100000 in
theorem ca_Mo_maskAt : a_callee aYY aBB aMX aRR 234 := ⟨tW8 98 rfl rfl, tW1 11 rfl rfl, by decide +kernel, by decide +kernel, by decide +kernel⟩
set_option maxRecDepth 100000 in
theorem ca_Mo_goOver : a_callee aYY aBB aMX aRR 235 := ⟨tW8 94 rfl rfl, tW1 11 rfl rfl, by decide +kernel, by decide +kernel, by decide +kernel⟩
set_option maxRecDepth 100000 in
theorem ca_Mo_take : a_callee aYY aBB aMX aRR 236 := ⟨tW8 102 rfl rfl, tW1 11 rfl rfl, by decide +kernel, by decide +kernel, by decide +kernel⟩
set_option maxRecDepth 100000 in
theorem ca_Mo_isCast : a_callee aYY aBB aMX aRR 237 := ⟨tW8 74 rfl rfl, tW1 11 rfl rfl, by decide +kernel, by decide +kernel, by decide +kernel⟩
set_option maxRecDepth 100000 in
theorem ca_Mo_made : a_callee aYY aBB aMX aRR 238 := ⟨tW8 70 rfl rfl, tW1 11 rfl rfl, by decide +kernel, by decide +kernel, by decide +kernel⟩
set_option maxRecDepth 100000 in
theorem ca_Mo_who : a_callee aYY aBB aMX aRR 239 := ⟨tW8 106 rfl rfl, tW1 11 rfl rfl, by decide +kernel, by decide +kernel, by decide +kernel⟩
set_option maxRecDepth 100000 in
theorem ca_Mo_show : a_callee aYY aBB aMX aRR 240 := ⟨tW8 110 rfl rfl, tW1 11 rfl rfl, by decide +kernel, by decide +kernel, by decide +kernel⟩
set_option maxRecDepth 100000 in
theorem ca_Mo_slipped : a_callee aYY aBB aMX aRR 241 := ⟨tW8 118 rfl rfl, tW1 11 rfl rfl, by decide +kernel, by decide +kernel, by decide +kernel⟩
set_option maxRecDepth 100000 in
theorem ca_Mo_count : a_callee aYY aBB aMX aRR 242 := ⟨tW8 122 rfl rfl, tW1 11 rfl rfl, by decide +kernel, by decide +kernel, by decide +kernel⟩
set_option maxRecDepth 100000 in
theorem ca_Mo_status : a_callee aYY aBB aMX aRR 243 := ⟨tW8 126 rfl rfl, tW1 11 rfl rfl, by decide +kernel, by decide +kernel, by decide +kernel⟩
set_option maxRecDepth 100000 in
theorem ca_J_ntzI : a_callee aYY aBB aMX aRR 244 := ⟨tW5 105 rfl rfl, tW1 14 rfl rfl, by decide +kernel, by decide +kernel, by decide +kernel⟩
set_option maxRecDepth 100000 in
theorem ca_J_bitI : a_callee aYY aBB aMX aRR 245 := ⟨tW3 68 rfl rfl, tW1 14 rfl rfl, by decide +kernel, by decide +kernel, by decide +kernel⟩
set_option maxRecDepth 100000 in
theorem ca_J_ntzL : a_callee aYY aBB aMX aRR 246 := ⟨tW5 102 rfl rfl, tW1 22 rfl rfl, by decide +kernel, by decide +kernel, by decide +kernel⟩
set_option maxRecDepth 100000 in
theorem ca_J_bitL : a_callee aYY aBB aMX aRR 247 := ⟨tW5 109 rfl rfl, tW1 22 rfl rfl, by decide +kernel, by decide +kernel, by decide +kernel⟩
set_option maxRecDepth 100000 in
theorem ca_J_rng : a_callee aYY aBB aMX aRR 248 := ⟨tW3 184 rfl rfl, tW1 20 rfl rfl, by decide +kernel, by decide +kernel, by decide +kernel⟩
set_option maxRecDepth 100000 in
theorem ca_J_fillL : a_callee aYY aBB aMX aRR 249 := ⟨tW5 88 rfl rfl, tW1 20 rfl rfl, by decide +kernel, by decide +kernel, by decide +kernel⟩
set_option maxRecDepth 100000 in
theorem ca_J_fillLr : a_callee aYY aBB aMX aRR 250 := ⟨tW4 202 rfl rfl, tW1 20 rfl rfl, by decide +kernel, by decide +kernel, by decide +kernel⟩
set_option maxRecDepth 100000 in
theorem ca_J_fillI : a_callee aYY aBB aMX aRR 251 := ⟨tW4 1 rfl rfl, tW1 20 rfl rfl, by decide +kernel, by decide +kernel, by decide +kernel⟩
set_option maxRecDepth 100000 in
theorem ca_J_fillIr : a_callee aYY aBB aMX aRR 252 := ⟨tW3 181 rfl rfl, tW1 20 rfl rfl, by decide +kernel, by decide +kernel, by decide +kernel⟩
def po_X0 : List (Nat × Nat × Nat × Nat × Nat) := [(9, 3, 0, 0, 10), (11, 11, 0, 2, 3), (11, 15, 0, 3, 3), (11, 19, 0, 0, 3), (1, 23, 7, 8, 3), (11, 29, 0, 1, 3), (1, 19, 0, 0, 3), (8, 30, 82, 307, 1), (1, 11, 0, 2, 3), (1, 34, 7, 4, 3), (1, 37, 7, 5, 3), (8, 40, 83, 307, 1), (1, 44, 7, 2, 3), (1, 29, 0, 1, 3), (1, 47, 8, 1, 0), (1, 53, 8, 4, 3), (1, 56, 8, 5, 3), (1, 59, 8, 6, 3), (1, 62, 8, 3, 3), (8, 65, 3, 300, 2), (10, 71, 0, 0, 17), (10, 77, 0, 0, 18), (1, 80, 8, 7, 3), (1, 15, 0, 3, 3), (10, 83, 4, 300, 2)]
set_option maxRecDepth 100000 in
theorem pf_X0_0 : a_pf aYY aBB aMX aRR RX0 (9, 3, 0, 0, 10) := ⟨(fun h => absurd h (by decide)), fun _ => ⟨rfl, tW1 199 rfl rfl, tW1 29 rfl rfl, tW1 30 rfl rfl⟩, by decide⟩
set_option maxRecDepth 100000 in
theorem pf_X0_1 : a_pf aYY aBB aMX aRR RX0 (11, 11, 0, 2, 3) := ⟨_, rfl, by decide, by decide +kernel, tW1 202 rfl rfl, rfl, rfl⟩
set_option maxRecDepth 100000 in
theorem pf_X0_2 : a_pf aYY aBB aMX aRR RX0 (11, 15, 0, 3, 3) := ⟨_, rfl, by decide, by decide +kernel, tW1 203 rfl rfl, rfl, rfl⟩
set_option maxRecDepth 100000 in
theorem pf_X0_3 : a_pf aYY aBB aMX aRR RX0 (11, 19, 0, 0, 3) := ⟨_, rfl, by decide, by decide +kernel, tW1 200 rfl rfl, rfl, rfl⟩
set_option maxRecDepth 100000 in
theorem pf_X0_4 : a_pf aYY aBB aMX aRR RX0 (1, 23, 7, 8, 3) := ⟨_, rfl, by decide, by decide +kernel, tW1 117 rfl rfl⟩
set_option maxRecDepth 100000 in
theorem pf_X0_5 : a_pf aYY aBB aMX aRR RX0 (11, 29, 0, 1, 3) := ⟨_, rfl, by decide, by decide +kernel, tW1 201 rfl rfl, rfl, rfl⟩
set_option maxRecDepth 100000 in
theorem pf_X0_6 : a_pf aYY aBB aMX aRR RX0 (1, 19, 0, 0, 3) := ⟨_, rfl, by decide, by decide +kernel, tW1 200 rfl rfl⟩
set_option maxRecDepth 100000 in
theorem pf_X0_7 : a_pf aYY aBB aMX aRR RX0 (8, 30, 82, 307, 1) := ⟨fun _ => ⟨ca_Scene_isOn, tW4 86 rfl rfl, tW3 26 rfl rfl, by decide, by decide +kernel, _, rfl, tW3 27 rfl rfl⟩, (fun h => absurd h (by decide)), (fun h => absurd h (by decide)), (fun h => absurd h (by decide)), by decide⟩
set_option maxRecDepth 100000 in
theorem pf_X0_8 : a_pf aYY aBB aMX aRR RX0 (1, 11, 0, 2, 3) := ⟨_, rfl, by decide, by decide +kernel, tW1 202 rfl rfl⟩
set_option maxRecDepth 100000 in
theorem pf_X0_9 : a_pf aYY aBB aMX aRR RX0 (1, 34, 7, 4, 3) := ⟨_, rfl, by decide, by decide +kernel, tW1 104 rfl rfl⟩
set_option maxRecDepth 100000 in
theorem pf_X0_10 : a_pf aYY aBB aMX aRR RX0 (1, 37, 7, 5, 3) := ⟨_, rfl, by decide, by decide +kernel, tW1 109 rfl rfl⟩
set_option maxRecDepth 100000 in
theorem pf_X0_11 : a_pf aYY aBB aMX aRR RX0 (8, 40, 83, 307, 1) := ⟨fun _ => ⟨ca_Scene_depth, tW4 87 rfl rfl, tW3 34 rfl rfl, by decide, by decide +kernel, _, rfl, tW3 35 rfl rfl⟩, (fun h => absurd h (by decide)), (fun h => absurd h (by decide)), (fun h => absurd h (by decide)), by decide⟩
set_option maxRecDepth 100000 in
theorem pf_X0_12 : a_pf aYY aBB aMX aRR RX0 (1, 44, 7, 2, 3) := ⟨_, rfl, by decide, by decide +kernel, tW1 95 rfl rfl⟩
set_option maxRecDepth 100000 in
theorem pf_X0_13 : a_pf aYY aBB aMX aRR RX0 (1, 29, 0, 1, 3) := ⟨_, rfl, by decide, by decide +kernel, tW1 201 rfl rfl⟩
set_option maxRecDepth 100000 in
theorem pf_X0_14 : a_pf aYY aBB aMX aRR RX0 (1, 47, 8, 1, 0) := ⟨_, rfl, by decide, by decide +kernel, tW1 56 rfl rfl⟩
set_option maxRecDepth 100000 in
theorem pf_X0_15 : a_pf aYY aBB aMX aRR RX0 (1, 53, 8, 4, 3) := ⟨_, rfl, by decide, by decide +kernel, tW1 62 rfl rfl⟩
set_option maxRecDepth 100000 in
theorem pf_X0_16 : a_pf aYY aBB aMX aRR RX0 (1, 56, 8, 5, 3) := ⟨_, rfl, by decide, by decide +kernel, tW1 64 rfl rfl⟩
set_option maxRecDepth 100000 in
theorem pf_X0_17 : a_pf aYY aBB aMX aRR RX0 (1, 59, 8, 6, 3) := ⟨_, rfl, by decide, by decide +kernel, tW1 66 rfl rfl⟩
set_option maxRecDepth 100000 in
theorem pf_X0_18 : a_pf aYY aBB aMX aRR RX0 (1, 62, 8, 3, 3) := ⟨_, rfl, by decide, by decide +kernel, tW1 60 rfl rfl⟩
set_option maxRecDepth 100000 in
theorem pf_X0_19 : a_pf aYY aBB aMX aRR RX0 (8, 65, 3, 300, 2) := ⟨fun _ => ⟨ca_Asker_valueOf, tW4 92 rfl rfl, tW4 94 rfl rfl, by decide, by decide +kernel, _, rfl, sW 22 rfl rfl⟩, (fun h => absurd h (by decide)), (fun h => absurd h (by decide)), (fun h => absurd h (by decide)), by decide⟩
set_option maxRecDepth 100000 in
theorem pf_X0_20 : a_pf aYY aBB aMX aRR RX0 (10, 71, 0, 0, 17) := ⟨(fun h => absurd h (by decide)), (fun h => absurd h (by decide)), (fun h => absurd h (by decide)), (fun h => absurd h (by decide)), fun _ => ⟨rfl, tW4 102 rfl rfl⟩, (fun h => absurd h (by decide)), (fun h => absurd h (by decide)), by decide⟩
set_option maxRecDepth 100000 in
theorem pf_X0_21 : a_pf aYY aBB aMX aRR RX0 (10, 77, 0, 0, 18) := ⟨(fun h => absurd h (by decide)), (fun h => absurd h (by decide)), (fun h => absurd h (by decide)), (fun h => absurd h (by decide)), (fun h => absurd h (by decide)), fun _ => ⟨rfl, tW4 105 rfl rfl⟩, (fun h => absurd h (by decide)), by decide⟩
set_option maxRecDepth 100000 in
theorem pf_X0_22 : a_pf aYY aBB aMX aRR RX0 (1, 80, 8, 7, 3) := ⟨_, rfl, by decide, by decide +kernel, tW1 68 rfl rfl⟩
set_option maxRecDepth 100000 in
theorem pf_X0_23 : a_pf aYY aBB aMX aRR RX0 (1, 15, 0, 3, 3) := ⟨_, rfl, by decide, by decide +kernel, tW1 203 rfl rfl⟩
set_option maxRecDepth 100000 in
theorem pf_X0_24 : a_pf aYY aBB aMX aRR RX0 (10, 83, 4, 300, 2) := ⟨fun _ => ⟨ca_Asker_join, Or.inl (tW4 97 rfl rfl), tW4 98 rfl rfl, by decide +kernel⟩, (fun h => absurd h (by decide)), (fun h => absurd h (by decide)), (fun h => absurd h (by decide)), (fun h => absurd h (by decide)), (fun h => absurd h (by decide)), (fun h => absurd h (by decide)), by decide⟩
set_option maxRecDepth 100000 in
theorem pa_X0 : ∀ e ∈ po_X0, a_pf aYY aBB aMX aRR RX0 e := List.forall_mem_cons.mpr ⟨pf_X0_0, List.forall_mem_cons.mpr ⟨pf_X0_1, List.forall_mem_cons.mpr ⟨pf_X0_2, List.forall_mem_cons.mpr ⟨pf_X0_3, List.forall_mem_cons.mpr ⟨pf_X0_4, List.forall_mem_cons.mpr ⟨pf_X0_5, List.forall_mem_cons.mpr ⟨pf_X0_6, List.forall_mem_cons.mpr ⟨pf_X0_7, List.forall_mem_cons.mpr ⟨pf_X0_8, List.forall_mem_cons.mpr ⟨pf_X0_9, List.forall_mem_cons.mpr ⟨pf_X0_10, List.forall_mem_cons.mpr ⟨pf_X0_11, List.forall_mem_cons.mpr ⟨pf_X0_12, List.forall_mem_cons.mpr ⟨pf_X0_13, List.forall_mem_cons.mpr ⟨pf_X0_14, List.forall_mem_cons.mpr ⟨pf_X0_15, List.forall_mem_cons.mpr ⟨pf_X0_16, List.forall_mem_cons.mpr ⟨pf_X0_17, List.forall_mem_cons.mpr ⟨pf_X0_18, List.forall_mem_cons.mpr ⟨pf_X0_19, List.forall_mem_cons.mpr ⟨pf_X0_20, List.forall_mem_cons.mpr ⟨pf_X0_21, List.forall_mem_cons.mpr ⟨pf_X0_22, List.forall_mem_cons.mpr ⟨pf_X0_23, List.forall_mem_cons.mpr ⟨pf_X0_24, (fun _ h => absurd h List.not_mem_nil)⟩⟩⟩⟩⟩⟩⟩⟩⟩⟩⟩⟩⟩⟩⟩⟩⟩⟩⟩⟩⟩⟩⟩⟩⟩
def kI_X0 : List (Nat × Int32) := []
set_option maxRecDepth 100000 in
theorem ka_X0 : ∀ e ∈ kI_X0, Jvm.Cond.constant RX0 e.1 e.2 ∈ aW := (fun _ h => absurd h List.not_mem_nil)
def kL_X0 : List (Nat × Int64) := [(69, 4611686018427387904), (87, 1000000000), (89, (-1000000000))]
set_option maxRecDepth 100000 in
theorem kb_X0 : ∀ e ∈ kL_X0, Jvm.Cond.constantLong RX0 e.1 e.2 ∈ aW := List.forall_mem_cons.mpr ⟨tW4 96 rfl rfl, List.forall_mem_cons.mpr ⟨tW4 100 rfl rfl, List.forall_mem_cons.mpr ⟨tW4 101 rfl rfl, (fun _ h => absurd h List.not_mem_nil)⟩⟩⟩
def po_X1 : List (Nat × Nat × Nat × Nat × Nat) := [(9, 3, 0, 0, 10), (11, 9, 1, 2, 3), (11, 15, 1, 3, 3), (11, 19, 1, 4, 3), (11, 23, 1, 5, 3), (6, 26, 17, 12, 0), (11, 28, 1, 6, 3), (2, 31, 1, 7, 0), (11, 35, 1, 0, 3), (11, 39, 1, 1, 3), (1, 19, 1, 4, 3), (1, 15, 1, 3, 3), (1, 35, 1, 0, 3), (8, 43, 84, 207, 1), (1, 31, 1, 7, 0), (1, 49, 7, 2, 3), (1, 23, 1, 5, 3), (8, 52, 15, 301, 1), (1, 9, 1, 2, 3), (8, 56, 16, 301, 1), (8, 59, 17, 301, 2), (1, 28, 1, 6, 3), (10, 63, 251, 200, 0), (10, 69, 14, 400, 0), (8, 73, 7, 201, 0), (8, 77, 12, 301, 2), (10, 80, 13, 300, 2), (8, 84, 82, 307, 1), (1, 88, 7, 4, 3), (10, 91, 0, 0, 19), (8, 96, 83, 307, 1), (1, 99, 7, 3, 3), (8, 102, 86, 307, 1), (1, 39, 1, 1, 3), (8, 105, 1, 500, 0), (8, 111, 2, 400, 1), (10, 115, 245, 100, 1), (8, 120, 18, 201, 1), (8, 124, 19, 201, 1)]
set_option maxRecDepth 100000 in
theorem pf_X1_0 : a_pf aYY aBB aMX aRR RX1 (9, 3, 0, 0, 10) := ⟨(fun h => absurd h (by decide)), fun _ => ⟨rfl, tW1 219 rfl rfl, tW1 29 rfl rfl, tW1 30 rfl rfl⟩, by decide⟩
set_option maxRecDepth 100000 in
theorem pf_X1_1 : a_pf aYY aBB aMX aRR RX1 (11, 9, 1, 2, 3) := ⟨_, rfl, by decide, by decide +kernel, tW1 224 rfl rfl, rfl, rfl⟩
set_option maxRecDepth 100000 in
theorem pf_X1_2 : a_pf aYY aBB aMX aRR RX1 (11, 15, 1, 3, 3) := ⟨_, rfl, by decide, by decide +kernel, tW1 225 rfl rfl, rfl, rfl⟩
set_option maxRecDepth 100000 in
theorem pf_X1_3 : a_pf aYY aBB aMX aRR RX1 (11, 19, 1, 4, 3) := ⟨_, rfl, by decide, by decide +kernel, tW1 226 rfl rfl, rfl, rfl⟩
set_option maxRecDepth 100000 in
theorem pf_X1_4 : a_pf aYY aBB aMX aRR RX1 (11, 23, 1, 5, 3) := ⟨_, rfl, by decide, by decide +kernel, tW1 227 rfl rfl, rfl, rfl⟩
set_option maxRecDepth 100000 in
theorem pf_X1_5 : a_pf aYY aBB aMX aRR RX1 (6, 26, 17, 12, 0) := ⟨_, Or.inl ⟨rfl, rfl, rfl⟩, tW1 220 rfl rfl, tW1 221 rfl rfl, tW1 86 rfl rfl⟩
set_option maxRecDepth 100000 in
theorem pf_X1_6 : a_pf aYY aBB aMX aRR RX1 (11, 28, 1, 6, 3) := ⟨_, rfl, by decide, by decide +kernel, tW1 228 rfl rfl, rfl, rfl⟩
set_option maxRecDepth 100000 in
theorem pf_X1_7 : a_pf aYY aBB aMX aRR RX1 (2, 31, 1, 7, 0) := ⟨_, rfl, by decide, by decide +kernel, tW1 229 rfl rfl, rfl⟩
set_option maxRecDepth 100000 in
theorem pf_X1_8 : a_pf aYY aBB aMX aRR RX1 (11, 35, 1, 0, 3) := ⟨_, rfl, by decide, by decide +kernel, tW1 222 rfl rfl, rfl, rfl⟩
set_option maxRecDepth 100000 in
theorem pf_X1_9 : a_pf aYY aBB aMX aRR RX1 (11, 39, 1, 1, 3) := ⟨_, rfl, by decide, by decide +kernel, tW1 223 rfl rfl, rfl, rfl⟩
set_option maxRecDepth 100000 in
theorem pf_X1_10 : a_pf aYY aBB aMX aRR RX1 (1, 19, 1, 4, 3) := ⟨_, rfl, by decide, by decide +kernel, tW1 226 rfl rfl⟩
set_option maxRecDepth 100000 in
theorem pf_X1_11 : a_pf aYY aBB aMX aRR RX1 (1, 15, 1, 3, 3) := ⟨_, rfl, by decide, by decide +kernel, tW1 225 rfl rfl⟩
set_option maxRecDepth 100000 in
theorem pf_X1_12 : a_pf aYY aBB aMX aRR RX1 (1, 35, 1, 0, 3) := ⟨_, rfl, by decide, by decide +kernel, tW1 222 rfl rfl⟩
set_option maxRecDepth 100000 in
theorem pf_X1_13 : a_pf aYY aBB aMX aRR RX1 (8, 43, 84, 207, 1) := ⟨fun _ => ⟨ca_Scene_onBits, tW4 64 rfl rfl, tW4 57 rfl rfl, by decide, by decide +kernel, _, rfl, tW4 58 rfl rfl⟩, (fun h => absurd h (by decide)), (fun h => absurd h (by decide)), (fun h => absurd h (by decide)), by decide⟩
set_option maxRecDepth 100000 in
theorem pf_X1_14 : a_pf aYY aBB aMX aRR RX1 (1, 31, 1, 7, 0) := ⟨_, rfl, by decide, by decide +kernel, tW1 229 rfl rfl⟩
set_option maxRecDepth 100000 in
theorem pf_X1_15 : a_pf aYY aBB aMX aRR RX1 (1, 49, 7, 2, 3) := ⟨_, rfl, by decide, by decide +kernel, tW1 96 rfl rfl⟩
set_option maxRecDepth 100000 in
theorem pf_X1_16 : a_pf aYY aBB aMX aRR RX1 (1, 23, 1, 5, 3) := ⟨_, rfl, by decide, by decide +kernel, tW1 227 rfl rfl⟩
set_option maxRecDepth 100000 in
theorem pf_X1_17 : a_pf aYY aBB aMX aRR RX1 (8, 52, 15, 301, 1) := ⟨fun _ => ⟨ca_Hands_farFrom, tW4 65 rfl rfl, tW4 67 rfl rfl, by decide, by decide +kernel, _, rfl, sW 20 rfl rfl⟩, (fun h => absurd h (by decide)), (fun h => absurd h (by decide)), (fun h => absurd h (by decide)), by decide⟩
set_option maxRecDepth 100000 in
theorem pf_X1_18 : a_pf aYY aBB aMX aRR RX1 (1, 9, 1, 2, 3) := ⟨_, rfl, by decide, by decide +kernel, tW1 224 rfl rfl⟩
set_option maxRecDepth 100000 in
theorem pf_X1_19 : a_pf aYY aBB aMX aRR RX1 (8, 56, 16, 301, 1) := ⟨fun _ => ⟨ca_Hands_allowedFor, tW4 74 rfl rfl, tW4 76 rfl rfl, by decide, by decide +kernel, _, rfl, sW 21 rfl rfl⟩, (fun h => absurd h (by decide)), (fun h => absurd h (by decide)), (fun h => absurd h (by decide)), by decide⟩
set_option maxRecDepth 100000 in
theorem pf_X1_20 : a_pf aYY aBB aMX aRR RX1 (8, 59, 17, 301, 2) := ⟨fun _ => ⟨ca_Hands_setsFor, tW4 108 rfl rfl, tW4 110 rfl rfl, by decide, by decide +kernel, _, rfl, sW 23 rfl rfl⟩, (fun h => absurd h (by decide)), (fun h => absurd h (by decide)), (fun h => absurd h (by decide)), by decide⟩
set_option maxRecDepth 100000 in
theorem pf_X1_21 : a_pf aYY aBB aMX aRR RX1 (1, 28, 1, 6, 3) := ⟨_, rfl, by decide, by decide +kernel, tW1 228 rfl rfl⟩
set_option maxRecDepth 100000 in
theorem pf_X1_22 : a_pf aYY aBB aMX aRR RX1 (10, 63, 251, 200, 0) := ⟨fun _ => ⟨ca_J_fillI, Or.inl (tW4 133 rfl rfl), tW4 0 rfl rfl, by decide +kernel⟩, (fun h => absurd h (by decide)), (fun h => absurd h (by decide)), (fun h => absurd h (by decide)), (fun h => absurd h (by decide)), (fun h => absurd h (by decide)), (fun h => absurd h (by decide)), by decide⟩
set_option maxRecDepth 100000 in
theorem pf_X1_23 : a_pf aYY aBB aMX aRR RX1 (10, 69, 14, 400, 0) := ⟨fun _ => ⟨ca_Hands_spreadWays, Or.inl (tW4 134 rfl rfl), tW4 135 rfl rfl, by decide +kernel⟩, (fun h => absurd h (by decide)), (fun h => absurd h (by decide)), (fun h => absurd h (by decide)), (fun h => absurd h (by decide)), (fun h => absurd h (by decide)), (fun h => absurd h (by decide)), by decide⟩
set_option maxRecDepth 100000 in
theorem pf_X1_24 : a_pf aYY aBB aMX aRR RX1 (8, 73, 7, 201, 0) := ⟨fun _ => ⟨ca_Hands_lookAt, tW4 149 rfl rfl, tW4 61 rfl rfl, by decide, by decide +kernel, _, rfl, tW4 62 rfl rfl⟩, (fun h => absurd h (by decide)), (fun h => absurd h (by decide)), (fun h => absurd h (by decide)), by decide⟩
set_option maxRecDepth 100000 in
theorem pf_X1_25 : a_pf aYY aBB aMX aRR RX1 (8, 77, 12, 301, 2) := ⟨fun _ => ⟨ca_Hands_reached, tW4 150 rfl rfl, tW4 152 rfl rfl, by decide, by decide +kernel, _, rfl, sW 26 rfl rfl⟩, (fun h => absurd h (by decide)), (fun h => absurd h (by decide)), (fun h => absurd h (by decide)), by decide⟩
set_option maxRecDepth 100000 in
theorem pf_X1_26 : a_pf aYY aBB aMX aRR RX1 (10, 80, 13, 300, 2) := ⟨fun _ => ⟨ca_Hands_spread, Or.inl (tW4 154 rfl rfl), tW4 155 rfl rfl, by decide +kernel⟩, (fun h => absurd h (by decide)), (fun h => absurd h (by decide)), (fun h => absurd h (by decide)), (fun h => absurd h (by decide)), (fun h => absurd h (by decide)), (fun h => absurd h (by decide)), by decide⟩
set_option maxRecDepth 100000 in
theorem pf_X1_27 : a_pf aYY aBB aMX aRR RX1 (8, 84, 82, 307, 1) := ⟨fun _ => ⟨ca_Scene_isOn, tW4 69 rfl rfl, tW3 26 rfl rfl, by decide, by decide +kernel, _, rfl, tW3 27 rfl rfl⟩, (fun h => absurd h (by decide)), (fun h => absurd h (by decide)), (fun h => absurd h (by decide)), by decide⟩
set_option maxRecDepth 100000 in
theorem pf_X1_28 : a_pf aYY aBB aMX aRR RX1 (1, 88, 7, 4, 3) := ⟨_, rfl, by decide, by decide +kernel, tW1 107 rfl rfl⟩
set_option maxRecDepth 100000 in
theorem pf_X1_29 : a_pf aYY aBB aMX aRR RX1 (10, 91, 0, 0, 19) := ⟨(fun h => absurd h (by decide)), (fun h => absurd h (by decide)), (fun h => absurd h (by decide)), (fun h => absurd h (by decide)), (fun h => absurd h (by decide)), (fun h => absurd h (by decide)), fun _ => ⟨rfl, tW4 70 rfl rfl⟩, by decide⟩
set_option maxRecDepth 100000 in
theorem pf_X1_30 : a_pf aYY aBB aMX aRR RX1 (8, 96, 83, 307, 1) := ⟨fun _ => ⟨ca_Scene_depth, tW4 73 rfl rfl, tW3 34 rfl rfl, by decide, by decide +kernel, _, rfl, tW3 35 rfl rfl⟩, (fun h => absurd h (by decide)), (fun h => absurd h (by decide)), (fun h => absurd h (by decide)), by decide⟩
set_option maxRecDepth 100000 in
theorem pf_X1_31 : a_pf aYY aBB aMX aRR RX1 (1, 99, 7, 3, 3) := ⟨_, rfl, by decide, by decide +kernel, tW1 102 rfl rfl⟩
set_option maxRecDepth 100000 in
theorem pf_X1_32 : a_pf aYY aBB aMX aRR RX1 (8, 102, 86, 307, 1) := ⟨fun _ => ⟨ca_Scene_stays, tW4 78 rfl rfl, tW4 79 rfl rfl, by decide, by decide +kernel, _, rfl, tW4 80 rfl rfl⟩, (fun h => absurd h (by decide)), (fun h => absurd h (by decide)), (fun h => absurd h (by decide)), by decide⟩
set_option maxRecDepth 100000 in
theorem pf_X1_33 : a_pf aYY aBB aMX aRR RX1 (1, 39, 1, 1, 3) := ⟨_, rfl, by decide, by decide +kernel, tW1 223 rfl rfl⟩
set_option maxRecDepth 100000 in
theorem pf_X1_34 : a_pf aYY aBB aMX aRR RX1 (8, 105, 1, 500, 0) := ⟨fun _ => ⟨ca_Asker_turnTo, tW4 82 rfl rfl, tW4 83 rfl rfl, by decide, by decide +kernel, _, rfl, tW4 84 rfl rfl⟩, (fun h => absurd h (by decide)), (fun h => absurd h (by decide)), (fun h => absurd h (by decide)), by decide⟩
set_option maxRecDepth 100000 in
theorem pf_X1_35 : a_pf aYY aBB aMX aRR RX1 (8, 111, 2, 400, 1) := ⟨fun _ => ⟨ca_Asker_tellLast, tW4 88 rfl rfl, tW4 89 rfl rfl, by decide, by decide +kernel, _, rfl, tW4 90 rfl rfl⟩, (fun h => absurd h (by decide)), (fun h => absurd h (by decide)), (fun h => absurd h (by decide)), by decide⟩
set_option maxRecDepth 100000 in
theorem pf_X1_36 : a_pf aYY aBB aMX aRR RX1 (10, 115, 245, 100, 1) := ⟨fun _ => ⟨ca_J_bitI, Or.inl (tW4 112 rfl rfl), tW3 67 rfl rfl, by decide +kernel⟩, (fun h => absurd h (by decide)), (fun h => absurd h (by decide)), (fun h => absurd h (by decide)), (fun h => absurd h (by decide)), (fun h => absurd h (by decide)), (fun h => absurd h (by decide)), by decide⟩
set_option maxRecDepth 100000 in
theorem pf_X1_37 : a_pf aYY aBB aMX aRR RX1 (8, 120, 18, 201, 1) := ⟨fun _ => ⟨ca_Hands_handsSuffice, tW4 113 rfl rfl, tW4 115 rfl rfl, by decide, by decide +kernel, _, rfl, sW 24 rfl rfl⟩, (fun h => absurd h (by decide)), (fun h => absurd h (by decide)), (fun h => absurd h (by decide)), by decide⟩
set_option maxRecDepth 100000 in
theorem pf_X1_38 : a_pf aYY aBB aMX aRR RX1 (8, 124, 19, 201, 1) := ⟨fun _ => ⟨ca_Hands_isTogether, tW4 117 rfl rfl, tW4 119 rfl rfl, by decide, by decide +kernel, _, rfl, sW 25 rfl rfl⟩, (fun h => absurd h (by decide)), (fun h => absurd h (by decide)), (fun h => absurd h (by decide)), by decide⟩
set_option maxRecDepth 100000 in
theorem pa_X1 : ∀ e ∈ po_X1, a_pf aYY aBB aMX aRR RX1 e := List.forall_mem_cons.mpr ⟨pf_X1_0, List.forall_mem_cons.mpr ⟨pf_X1_1, List.forall_mem_cons.mpr ⟨pf_X1_2, List.forall_mem_cons.mpr ⟨pf_X1_3, List.forall_mem_cons.mpr ⟨pf_X1_4, List.forall_mem_cons.mpr ⟨pf_X1_5, List.forall_mem_cons.mpr ⟨pf_X1_6, List.forall_mem_cons.mpr ⟨pf_X1_7, List.forall_mem_cons.mpr ⟨pf_X1_8, List.forall_mem_cons.mpr ⟨pf_X1_9, List.forall_mem_cons.mpr ⟨pf_X1_10, List.forall_mem_cons.mpr ⟨pf_X1_11, List.forall_mem_cons.mpr ⟨pf_X1_12, List.forall_mem_cons.mpr ⟨pf_X1_13, List.forall_mem_cons.mpr ⟨pf_X1_14, List.forall_mem_cons.mpr ⟨pf_X1_15, List.forall_mem_cons.mpr ⟨pf_X1_16, List.forall_mem_cons.mpr ⟨pf_X1_17, List.forall_mem_cons.mpr ⟨pf_X1_18, List.forall_mem_cons.mpr ⟨pf_X1_19, List.forall_mem_cons.mpr ⟨pf_X1_20, List.forall_mem_cons.mpr ⟨pf_X1_21, List.forall_mem_cons.mpr ⟨pf_X1_22, List.forall_mem_cons.mpr ⟨pf_X1_23, List.forall_mem_cons.mpr ⟨pf_X1_24, List.forall_mem_cons.mpr ⟨pf_X1_25, List.forall_mem_cons.mpr ⟨pf_X1_26, List.forall_mem_cons.mpr ⟨pf_X1_27, List.forall_mem_cons.mpr ⟨pf_X1_28, List.forall_mem_cons.mpr ⟨pf_X1_29, List.forall_mem_cons.mpr ⟨pf_X1_30, List.forall_mem_cons.mpr ⟨pf_X1_31, List.forall_mem_cons.mpr ⟨pf_X1_32, List.forall_mem_cons.mpr ⟨pf_X1_33, List.forall_mem_cons.mpr ⟨pf_X1_34, List.forall_mem_cons.mpr ⟨pf_X1_35, List.forall_mem_cons.mpr ⟨pf_X1_36, List.forall_mem_cons.mpr ⟨pf_X1_37, List.forall_mem_cons.mpr ⟨pf_X1_38, (fun _ h => absurd h List.not_mem_nil)⟩⟩⟩⟩⟩⟩⟩⟩⟩⟩⟩⟩⟩⟩⟩⟩⟩⟩⟩⟩⟩⟩⟩⟩⟩⟩⟩⟩⟩⟩⟩⟩⟩⟩⟩⟩⟩⟩⟩
def kI_X1 : List (Nat × Int32) := []
set_option maxRecDepth 100000 in
theorem ka_X1 : ∀ e ∈ kI_X1, Jvm.Cond.constant RX1 e.1 e.2 ∈ aW := (fun _ h => absurd h List.not_mem_nil)
def kL_X1 : List (Nat × Int64) := []
set_option maxRecDepth 100000 in
theorem kb_X1 : ∀ e ∈ kL_X1, Jvm.Cond.constantLong RX1 e.1 e.2 ∈ aW := (fun _ h => absurd h List.not_mem_nil)
def po_X2 : List (Nat × Nat × Nat × Nat × Nat) := [(9, 3, 0, 0, 10), (11, 9, 2, 0, 3), (10, 15, 0, 0, 16), (1, 9, 2, 0, 3), (8, 21, 82, 307, 1), (8, 27, 83, 307, 1), (1, 30, 7, 3, 3), (10, 34, 21, 300, 1), (1, 38, 7, 5, 3), (1, 41, 7, 1, 3), (1, 44, 7, 4, 3), (8, 47, 22, 402, 1), (10, 50, 245, 100, 1)]
set_option maxRecDepth 100000 in
theorem pf_X2_0 : a_pf aYY aBB aMX aRR RX2 (9, 3, 0, 0, 10) := ⟨(fun h => absurd h (by decide)), fun _ => ⟨rfl, tW1 189 rfl rfl, tW1 29 rfl rfl, tW1 30 rfl rfl⟩, by decide⟩
set_option maxRecDepth 100000 in
theorem pf_X2_1 : a_pf aYY aBB aMX aRR RX2 (11, 9, 2, 0, 3) := ⟨_, rfl, by decide, by decide +kernel, tW1 190 rfl rfl, rfl, rfl⟩
set_option maxRecDepth 100000 in
theorem pf_X2_2 : a_pf aYY aBB aMX aRR RX2 (10, 15, 0, 0, 16) := ⟨(fun h => absurd h (by decide)), (fun h => absurd h (by decide)), (fun h => absurd h (by decide)), fun _ => ⟨rfl, tW4 29 rfl rfl⟩, (fun h => absurd h (by decide)), (fun h => absurd h (by decide)), (fun h => absurd h (by decide)), by decide⟩
set_option maxRecDepth 100000 in
theorem pf_X2_3 : a_pf aYY aBB aMX aRR RX2 (1, 9, 2, 0, 3) := ⟨_, rfl, by decide, by decide +kernel, tW1 190 rfl rfl⟩
set_option maxRecDepth 100000 in
theorem pf_X2_4 : a_pf aYY aBB aMX aRR RX2 (8, 21, 82, 307, 1) := ⟨fun _ => ⟨ca_Scene_isOn, tW4 24 rfl rfl, tW3 26 rfl rfl, by decide, by decide +kernel, _, rfl, tW3 27 rfl rfl⟩, (fun h => absurd h (by decide)), (fun h => absurd h (by decide)), (fun h => absurd h (by decide)), by decide⟩
set_option maxRecDepth 100000 in
theorem pf_X2_5 : a_pf aYY aBB aMX aRR RX2 (8, 27, 83, 307, 1) := ⟨fun _ => ⟨ca_Scene_depth, tW4 25 rfl rfl, tW3 34 rfl rfl, by decide, by decide +kernel, _, rfl, tW3 35 rfl rfl⟩, (fun h => absurd h (by decide)), (fun h => absurd h (by decide)), (fun h => absurd h (by decide)), by decide⟩
set_option maxRecDepth 100000 in
theorem pf_X2_6 : a_pf aYY aBB aMX aRR RX2 (1, 30, 7, 3, 3) := ⟨_, rfl, by decide, by decide +kernel, tW1 100 rfl rfl⟩
set_option maxRecDepth 100000 in
theorem pf_X2_7 : a_pf aYY aBB aMX aRR RX2 (10, 34, 21, 300, 1) := ⟨fun _ => ⟨ca_Light_project, Or.inl (tW4 26 rfl rfl), tW4 27 rfl rfl, by decide +kernel⟩, (fun h => absurd h (by decide)), (fun h => absurd h (by decide)), (fun h => absurd h (by decide)), (fun h => absurd h (by decide)), (fun h => absurd h (by decide)), (fun h => absurd h (by decide)), by decide⟩
set_option maxRecDepth 100000 in
theorem pf_X2_8 : a_pf aYY aBB aMX aRR RX2 (1, 38, 7, 5, 3) := ⟨_, rfl, by decide, by decide +kernel, tW1 110 rfl rfl⟩
set_option maxRecDepth 100000 in
theorem pf_X2_9 : a_pf aYY aBB aMX aRR RX2 (1, 41, 7, 1, 3) := ⟨_, rfl, by decide, by decide +kernel, tW1 91 rfl rfl⟩
set_option maxRecDepth 100000 in
theorem pf_X2_10 : a_pf aYY aBB aMX aRR RX2 (1, 44, 7, 4, 3) := ⟨_, rfl, by decide, by decide +kernel, tW1 105 rfl rfl⟩
set_option maxRecDepth 100000 in
theorem pf_X2_11 : a_pf aYY aBB aMX aRR RX2 (8, 47, 22, 402, 1) := ⟨fun _ => ⟨ca_Light_rowOf, tW4 20 rfl rfl, tW4 21 rfl rfl, by decide, by decide +kernel, _, rfl, tW4 22 rfl rfl⟩, (fun h => absurd h (by decide)), (fun h => absurd h (by decide)), (fun h => absurd h (by decide)), by decide⟩
set_option maxRecDepth 100000 in
theorem pf_X2_12 : a_pf aYY aBB aMX aRR RX2 (10, 50, 245, 100, 1) := ⟨fun _ => ⟨ca_J_bitI, Or.inl (tW4 39 rfl rfl), tW3 67 rfl rfl, by decide +kernel⟩, (fun h => absurd h (by decide)), (fun h => absurd h (by decide)), (fun h => absurd h (by decide)), (fun h => absurd h (by decide)), (fun h => absurd h (by decide)), (fun h => absurd h (by decide)), by decide⟩
set_option maxRecDepth 100000 in
theorem pa_X2 : ∀ e ∈ po_X2, a_pf aYY aBB aMX aRR RX2 e := List.forall_mem_cons.mpr ⟨pf_X2_0, List.forall_mem_cons.mpr ⟨pf_X2_1, List.forall_mem_cons.mpr ⟨pf_X2_2, List.forall_mem_cons.mpr ⟨pf_X2_3, List.forall_mem_cons.mpr ⟨pf_X2_4, List.forall_mem_cons.mpr ⟨pf_X2_5, List.forall_mem_cons.mpr ⟨pf_X2_6, List.forall_mem_cons.mpr ⟨pf_X2_7, List.forall_mem_cons.mpr ⟨pf_X2_8, List.forall_mem_cons.mpr ⟨pf_X2_9, List.forall_mem_cons.mpr ⟨pf_X2_10, List.forall_mem_cons.mpr ⟨pf_X2_11, List.forall_mem_cons.mpr ⟨pf_X2_12, (fun _ h => absurd h List.not_mem_nil)⟩⟩⟩⟩⟩⟩⟩⟩⟩⟩⟩⟩⟩
def kI_X2 : List (Nat × Int32) := []
set_option maxRecDepth 100000 in
theorem ka_X2 : ∀ e ∈ kI_X2, Jvm.Cond.constant RX2 e.1 e.2 ∈ aW := (fun _ h => absurd h List.not_mem_nil)
def kL_X2 : List (Nat × Int64) := []
set_option maxRecDepth 100000 in
theorem kb_X2 : ∀ e ∈ kL_X2, Jvm.Cond.constantLong RX2 e.1 e.2 ∈ aW := (fun _ h => absurd h List.not_mem_nil)
def po_X3 : List (Nat × Nat × Nat × Nat × Nat) := [(9, 3, 0, 0, 10), (2, 9, 3, 0, 0), (4, 15, 9, 8, 0), (9, 17, 97, 109, 0), (11, 18, 3, 2, 3), (5, 22, 15, 0, 0), (11, 24, 3, 3, 3), (11, 28, 3, 4, 3), (11, 32, 3, 5, 3), (11, 36, 3, 6, 3), (2, 39, 3, 7, 0), (2, 42, 3, 8, 1), (2, 46, 3, 9, 2), (2, 50, 3, 10, 0), (2, 53, 3, 11, 0), (2, 56, 3, 12, 0), (2, 59, 3, 13, 0), (11, 62, 3, 1, 3), (1, 28, 3, 4, 3), (1, 39, 3, 7, 0), (1, 42, 3, 8, 1), (1, 18, 3, 2, 3), (1, 62, 3, 1, 3), (8, 66, 98, 209, 0), (1, 70, 9, 0, 0), (8, 73, 32, 103, 0), (10, 76, 245, 100, 1), (8, 82, 33, 203, 0), (1, 46, 3, 9, 2), (10, 88, 0, 0, 17), (1, 50, 3, 10, 0), (1, 32, 3, 5, 3), (1, 24, 3, 3, 3), (4, 22, 5, 9, 0), (9, 94, 59, 105, 0), (8, 95, 60, 405, 0), (1, 36, 3, 6, 3), (8, 99, 36, 303, 0), (8, 103, 37, 403, 0), (8, 107, 38, 503, 0), (1, 9, 3, 0, 0), (1, 111, 5, 0, 0), (1, 114, 5, 3, 3), (1, 118, 9, 1, 2), (8, 121, 34, 203, 1), (8, 125, 35, 203, 0), (1, 128, 5, 4, 3), (8, 133, 42, 603, 2), (1, 59, 3, 13, 0), (1, 137, 5, 2, 2), (10, 140, 247, 100, 1), (1, 145, 5, 1, 0), (10, 148, 39, 300, 1), (8, 152, 40, 603, 2), (1, 53, 3, 11, 0), (1, 56, 3, 12, 0), (10, 156, 246, 100, 1), (1, 159, 5, 6, 3), (8, 162, 41, 303, 0), (1, 166, 5, 5, 3)]
set_option maxRecDepth 100000 in
theorem pf_X3_0 : a_pf aYY aBB aMX aRR RX3 (9, 3, 0, 0, 10) := ⟨(fun h => absurd h (by decide)), fun _ => ⟨rfl, tW2 68 rfl rfl, tW1 29 rfl rfl, tW1 30 rfl rfl⟩, by decide⟩
set_option maxRecDepth 100000 in
theorem pf_X3_1 : a_pf aYY aBB aMX aRR RX3 (2, 9, 3, 0, 0) := ⟨_, rfl, by decide, by decide +kernel, tW2 112 rfl rfl, rfl⟩
set_option maxRecDepth 100000 in
theorem pf_X3_2 : a_pf aYY aBB aMX aRR RX3 (4, 15, 9, 8, 0) := ⟨_, rfl, rfl, tW2 69 rfl rfl, tW2 70 rfl rfl, tW1 10 rfl rfl⟩
set_option maxRecDepth 100000 in
theorem pf_X3_3 : a_pf aYY aBB aMX aRR RX3 (9, 17, 97, 109, 0) := ⟨fun _ => ⟨ca_Target_init, rfl, Or.inr ⟨"ClothPlay", tW2 71 rfl rfl⟩, tW2 72 rfl rfl, rfl, by decide, by decide +kernel, by decide⟩, (fun h => absurd h (by decide)), by decide⟩
set_option maxRecDepth 100000 in
theorem pf_X3_4 : a_pf aYY aBB aMX aRR RX3 (11, 18, 3, 2, 3) := ⟨_, rfl, by decide, by decide +kernel, tW2 115 rfl rfl, rfl, rfl⟩
set_option maxRecDepth 100000 in
theorem pf_X3_5 : a_pf aYY aBB aMX aRR RX3 (5, 22, 15, 0, 0) := ⟨_, Or.inl ⟨rfl, rfl⟩, tW2 110 rfl rfl, tW2 111 rfl rfl⟩
set_option maxRecDepth 100000 in
theorem pf_X3_6 : a_pf aYY aBB aMX aRR RX3 (11, 24, 3, 3, 3) := ⟨_, rfl, by decide, by decide +kernel, tW2 116 rfl rfl, rfl, rfl⟩
set_option maxRecDepth 100000 in
theorem pf_X3_7 : a_pf aYY aBB aMX aRR RX3 (11, 28, 3, 4, 3) := ⟨_, rfl, by decide, by decide +kernel, tW2 117 rfl rfl, rfl, rfl⟩
set_option maxRecDepth 100000 in
theorem pf_X3_8 : a_pf aYY aBB aMX aRR RX3 (11, 32, 3, 5, 3) := ⟨_, rfl, by decide, by decide +kernel, tW2 118 rfl rfl, rfl, rfl⟩
set_option maxRecDepth 100000 in
theorem pf_X3_9 : a_pf aYY aBB aMX aRR RX3 (11, 36, 3, 6, 3) := ⟨_, rfl, by decide, by decide +kernel, tW2 119 rfl rfl, rfl, rfl⟩
set_option maxRecDepth 100000 in
theorem pf_X3_10 : a_pf aYY aBB aMX aRR RX3 (2, 39, 3, 7, 0) := ⟨_, rfl, by decide, by decide +kernel, tW2 120 rfl rfl, rfl⟩
set_option maxRecDepth 100000 in
theorem pf_X3_11 : a_pf aYY aBB aMX aRR RX3 (2, 42, 3, 8, 1) := ⟨_, rfl, by decide, by decide +kernel, tW2 121 rfl rfl, rfl⟩
set_option maxRecDepth 100000 in
theorem pf_X3_12 : a_pf aYY aBB aMX aRR RX3 (2, 46, 3, 9, 2) := ⟨_, rfl, by decide, by decide +kernel, tW2 122 rfl rfl, rfl⟩
set_option maxRecDepth 100000 in
theorem pf_X3_13 : a_pf aYY aBB aMX aRR RX3 (2, 50, 3, 10, 0) := ⟨_, rfl, by decide, by decide +kernel, tW2 123 rfl rfl, rfl⟩
set_option maxRecDepth 100000 in
theorem pf_X3_14 : a_pf aYY aBB aMX aRR RX3 (2, 53, 3, 11, 0) := ⟨_, rfl, by decide, by decide +kernel, tW2 124 rfl rfl, rfl⟩
set_option maxRecDepth 100000 in
theorem pf_X3_15 : a_pf aYY aBB aMX aRR RX3 (2, 56, 3, 12, 0) := ⟨_, rfl, by decide, by decide +kernel, tW2 125 rfl rfl, rfl⟩
set_option maxRecDepth 100000 in
theorem pf_X3_16 : a_pf aYY aBB aMX aRR RX3 (2, 59, 3, 13, 0) := ⟨_, rfl, by decide, by decide +kernel, tW2 126 rfl rfl, rfl⟩
set_option maxRecDepth 100000 in
theorem pf_X3_17 : a_pf aYY aBB aMX aRR RX3 (11, 62, 3, 1, 3) := ⟨_, rfl, by decide, by decide +kernel, tW2 114 rfl rfl, rfl, rfl⟩
set_option maxRecDepth 100000 in
theorem pf_X3_18 : a_pf aYY aBB aMX aRR RX3 (1, 28, 3, 4, 3) := ⟨_, rfl, by decide, by decide +kernel, tW2 117 rfl rfl⟩
set_option maxRecDepth 100000 in
theorem pf_X3_19 : a_pf aYY aBB aMX aRR RX3 (1, 39, 3, 7, 0) := ⟨_, rfl, by decide, by decide +kernel, tW2 120 rfl rfl⟩
set_option maxRecDepth 100000 in
theorem pf_X3_20 : a_pf aYY aBB aMX aRR RX3 (1, 42, 3, 8, 1) := ⟨_, rfl, by decide, by decide +kernel, tW2 121 rfl rfl⟩
set_option maxRecDepth 100000 in
theorem pf_X3_21 : a_pf aYY aBB aMX aRR RX3 (1, 18, 3, 2, 3) := ⟨_, rfl, by decide, by decide +kernel, tW2 115 rfl rfl⟩
set_option maxRecDepth 100000 in
theorem pf_X3_22 : a_pf aYY aBB aMX aRR RX3 (1, 62, 3, 1, 3) := ⟨_, rfl, by decide, by decide +kernel, tW2 114 rfl rfl⟩
set_option maxRecDepth 100000 in
theorem pf_X3_23 : a_pf aYY aBB aMX aRR RX3 (8, 66, 98, 209, 0) := ⟨fun _ => ⟨ca_Target_lookAt, tW5 25 rfl rfl, tW5 26 rfl rfl, by decide, by decide +kernel, _, rfl, tW5 27 rfl rfl⟩, (fun h => absurd h (by decide)), (fun h => absurd h (by decide)), (fun h => absurd h (by decide)), by decide⟩
set_option maxRecDepth 100000 in
theorem pf_X3_24 : a_pf aYY aBB aMX aRR RX3 (1, 70, 9, 0, 0) := ⟨_, rfl, by decide, by decide +kernel, tW2 77 rfl rfl⟩
set_option maxRecDepth 100000 in
theorem pf_X3_25 : a_pf aYY aBB aMX aRR RX3 (8, 73, 32, 103, 0) := ⟨fun _ => ⟨ca_Maker_gatherCast, tW5 37 rfl rfl, tW5 39 rfl rfl, by decide, by decide +kernel, _, rfl, sW 39 rfl rfl⟩, (fun h => absurd h (by decide)), (fun h => absurd h (by decide)), (fun h => absurd h (by decide)), by decide⟩
set_option maxRecDepth 100000 in
theorem pf_X3_26 : a_pf aYY aBB aMX aRR RX3 (10, 76, 245, 100, 1) := ⟨fun _ => ⟨ca_J_bitI, Or.inl (tW5 114 rfl rfl), tW3 67 rfl rfl, by decide +kernel⟩, (fun h => absurd h (by decide)), (fun h => absurd h (by decide)), (fun h => absurd h (by decide)), (fun h => absurd h (by decide)), (fun h => absurd h (by decide)), (fun h => absurd h (by decide)), by decide⟩
set_option maxRecDepth 100000 in
theorem pf_X3_27 : a_pf aYY aBB aMX aRR RX3 (8, 82, 33, 203, 0) := ⟨fun _ => ⟨ca_Maker_trySet, tW5 115 rfl rfl, tW5 117 rfl rfl, by decide, by decide +kernel, _, rfl, sW 41 rfl rfl⟩, (fun h => absurd h (by decide)), (fun h => absurd h (by decide)), (fun h => absurd h (by decide)), by decide⟩
set_option maxRecDepth 100000 in
theorem pf_X3_28 : a_pf aYY aBB aMX aRR RX3 (1, 46, 3, 9, 2) := ⟨_, rfl, by decide, by decide +kernel, tW2 122 rfl rfl⟩
set_option maxRecDepth 100000 in
theorem pf_X3_29 : a_pf aYY aBB aMX aRR RX3 (10, 88, 0, 0, 17) := ⟨(fun h => absurd h (by decide)), (fun h => absurd h (by decide)), (fun h => absurd h (by decide)), (fun h => absurd h (by decide)), fun _ => ⟨rfl, tW5 162 rfl rfl⟩, (fun h => absurd h (by decide)), (fun h => absurd h (by decide)), by decide⟩
set_option maxRecDepth 100000 in
theorem pf_X3_30 : a_pf aYY aBB aMX aRR RX3 (1, 50, 3, 10, 0) := ⟨_, rfl, by decide, by decide +kernel, tW2 123 rfl rfl⟩
set_option maxRecDepth 100000 in
theorem pf_X3_31 : a_pf aYY aBB aMX aRR RX3 (1, 32, 3, 5, 3) := ⟨_, rfl, by decide, by decide +kernel, tW2 118 rfl rfl⟩
set_option maxRecDepth 100000 in
theorem pf_X3_32 : a_pf aYY aBB aMX aRR RX3 (1, 24, 3, 3, 3) := ⟨_, rfl, by decide, by decide +kernel, tW2 116 rfl rfl⟩
set_option maxRecDepth 100000 in
theorem pf_X3_33 : a_pf aYY aBB aMX aRR RX3 (4, 22, 5, 9, 0) := ⟨_, rfl, rfl, tW2 110 rfl rfl, tW5 41 rfl rfl, tW1 21 rfl rfl⟩
set_option maxRecDepth 100000 in
theorem pf_X3_34 : a_pf aYY aBB aMX aRR RX3 (9, 94, 59, 105, 0) := ⟨fun _ => ⟨ca_Prints_init, rfl, Or.inr ⟨"ClothPlay", tW5 42 rfl rfl⟩, tW5 43 rfl rfl, rfl, by decide, by decide +kernel, by decide⟩, (fun h => absurd h (by decide)), by decide⟩
set_option maxRecDepth 100000 in
theorem pf_X3_35 : a_pf aYY aBB aMX aRR RX3 (8, 95, 60, 405, 0) := ⟨fun _ => ⟨ca_Prints_gather, tW5 81 rfl rfl, tW5 82 rfl rfl, by decide, by decide +kernel, _, rfl, tW5 83 rfl rfl⟩, (fun h => absurd h (by decide)), (fun h => absurd h (by decide)), (fun h => absurd h (by decide)), by decide⟩
set_option maxRecDepth 100000 in
theorem pf_X3_36 : a_pf aYY aBB aMX aRR RX3 (1, 36, 3, 6, 3) := ⟨_, rfl, by decide, by decide +kernel, tW2 119 rfl rfl⟩
set_option maxRecDepth 100000 in
theorem pf_X3_37 : a_pf aYY aBB aMX aRR RX3 (8, 99, 36, 303, 0) := ⟨fun _ => ⟨ca_Maker_trySingle, tW5 119 rfl rfl, tW5 121 rfl rfl, by decide, by decide +kernel, _, rfl, sW 42 rfl rfl⟩, (fun h => absurd h (by decide)), (fun h => absurd h (by decide)), (fun h => absurd h (by decide)), by decide⟩
set_option maxRecDepth 100000 in
theorem pf_X3_38 : a_pf aYY aBB aMX aRR RX3 (8, 103, 37, 403, 0) := ⟨fun _ => ⟨ca_Maker_tryPair, tW5 131 rfl rfl, tW5 133 rfl rfl, by decide, by decide +kernel, _, rfl, sW 45 rfl rfl⟩, (fun h => absurd h (by decide)), (fun h => absurd h (by decide)), (fun h => absurd h (by decide)), by decide⟩
set_option maxRecDepth 100000 in
theorem pf_X3_39 : a_pf aYY aBB aMX aRR RX3 (8, 107, 38, 503, 0) := ⟨fun _ => ⟨ca_Maker_tryTriple, tW5 142 rfl rfl, tW5 144 rfl rfl, by decide, by decide +kernel, _, rfl, sW 47 rfl rfl⟩, (fun h => absurd h (by decide)), (fun h => absurd h (by decide)), (fun h => absurd h (by decide)), by decide⟩
set_option maxRecDepth 100000 in
theorem pf_X3_40 : a_pf aYY aBB aMX aRR RX3 (1, 9, 3, 0, 0) := ⟨_, rfl, by decide, by decide +kernel, tW2 112 rfl rfl⟩
set_option maxRecDepth 100000 in
theorem pf_X3_41 : a_pf aYY aBB aMX aRR RX3 (1, 111, 5, 0, 0) := ⟨_, rfl, by decide, by decide +kernel, tW5 47 rfl rfl⟩
set_option maxRecDepth 100000 in
theorem pf_X3_42 : a_pf aYY aBB aMX aRR RX3 (1, 114, 5, 3, 3) := ⟨_, rfl, by decide, by decide +kernel, tW5 53 rfl rfl⟩
set_option maxRecDepth 100000 in
theorem pf_X3_43 : a_pf aYY aBB aMX aRR RX3 (1, 118, 9, 1, 2) := ⟨_, rfl, by decide, by decide +kernel, tW2 80 rfl rfl⟩
set_option maxRecDepth 100000 in
theorem pf_X3_44 : a_pf aYY aBB aMX aRR RX3 (8, 121, 34, 203, 1) := ⟨fun _ => ⟨ca_Maker_isBetter, tW5 123 rfl rfl, tW5 125 rfl rfl, by decide, by decide +kernel, _, rfl, sW 43 rfl rfl⟩, (fun h => absurd h (by decide)), (fun h => absurd h (by decide)), (fun h => absurd h (by decide)), by decide⟩
set_option maxRecDepth 100000 in
theorem pf_X3_45 : a_pf aYY aBB aMX aRR RX3 (8, 125, 35, 203, 0) := ⟨fun _ => ⟨ca_Maker_choose, tW5 127 rfl rfl, tW5 129 rfl rfl, by decide, by decide +kernel, _, rfl, sW 44 rfl rfl⟩, (fun h => absurd h (by decide)), (fun h => absurd h (by decide)), (fun h => absurd h (by decide)), by decide⟩
set_option maxRecDepth 100000 in
theorem pf_X3_46 : a_pf aYY aBB aMX aRR RX3 (1, 128, 5, 4, 3) := ⟨_, rfl, by decide, by decide +kernel, tW5 55 rfl rfl⟩
set_option maxRecDepth 100000 in
theorem pf_X3_47 : a_pf aYY aBB aMX aRR RX3 (8, 133, 42, 603, 2) := ⟨fun _ => ⟨ca_Maker_countFilling, tW5 136 rfl rfl, tW5 138 rfl rfl, by decide, by decide +kernel, _, rfl, sW 46 rfl rfl⟩, (fun h => absurd h (by decide)), (fun h => absurd h (by decide)), (fun h => absurd h (by decide)), by decide⟩
set_option maxRecDepth 100000 in
theorem pf_X3_48 : a_pf aYY aBB aMX aRR RX3 (1, 59, 3, 13, 0) := ⟨_, rfl, by decide, by decide +kernel, tW2 126 rfl rfl⟩
set_option maxRecDepth 100000 in
theorem pf_X3_49 : a_pf aYY aBB aMX aRR RX3 (1, 137, 5, 2, 2) := ⟨_, rfl, by decide, by decide +kernel, tW5 51 rfl rfl⟩
set_option maxRecDepth 100000 in
theorem pf_X3_50 : a_pf aYY aBB aMX aRR RX3 (10, 140, 247, 100, 1) := ⟨fun _ => ⟨ca_J_bitL, Or.inl (tW5 140 rfl rfl), tW5 108 rfl rfl, by decide +kernel⟩, (fun h => absurd h (by decide)), (fun h => absurd h (by decide)), (fun h => absurd h (by decide)), (fun h => absurd h (by decide)), (fun h => absurd h (by decide)), (fun h => absurd h (by decide)), by decide⟩
set_option maxRecDepth 100000 in
theorem pf_X3_51 : a_pf aYY aBB aMX aRR RX3 (1, 145, 5, 1, 0) := ⟨_, rfl, by decide, by decide +kernel, tW5 49 rfl rfl⟩
set_option maxRecDepth 100000 in
theorem pf_X3_52 : a_pf aYY aBB aMX aRR RX3 (10, 148, 39, 300, 1) := ⟨fun _ => ⟨ca_Maker_rarestCell, Or.inl (tW5 146 rfl rfl), tW5 147 rfl rfl, by decide +kernel⟩, (fun h => absurd h (by decide)), (fun h => absurd h (by decide)), (fun h => absurd h (by decide)), (fun h => absurd h (by decide)), (fun h => absurd h (by decide)), (fun h => absurd h (by decide)), by decide⟩
set_option maxRecDepth 100000 in
theorem pf_X3_53 : a_pf aYY aBB aMX aRR RX3 (8, 152, 40, 603, 2) := ⟨fun _ => ⟨ca_Maker_countBeside, tW5 149 rfl rfl, tW5 151 rfl rfl, by decide, by decide +kernel, _, rfl, sW 48 rfl rfl⟩, (fun h => absurd h (by decide)), (fun h => absurd h (by decide)), (fun h => absurd h (by decide)), by decide⟩
set_option maxRecDepth 100000 in
theorem pf_X3_54 : a_pf aYY aBB aMX aRR RX3 (1, 53, 3, 11, 0) := ⟨_, rfl, by decide, by decide +kernel, tW2 124 rfl rfl⟩
set_option maxRecDepth 100000 in
theorem pf_X3_55 : a_pf aYY aBB aMX aRR RX3 (1, 56, 3, 12, 0) := ⟨_, rfl, by decide, by decide +kernel, tW2 125 rfl rfl⟩
set_option maxRecDepth 100000 in
theorem pf_X3_56 : a_pf aYY aBB aMX aRR RX3 (10, 156, 246, 100, 1) := ⟨fun _ => ⟨ca_J_ntzL, Or.inl (tW5 141 rfl rfl), tW5 101 rfl rfl, by decide +kernel⟩, (fun h => absurd h (by decide)), (fun h => absurd h (by decide)), (fun h => absurd h (by decide)), (fun h => absurd h (by decide)), (fun h => absurd h (by decide)), (fun h => absurd h (by decide)), by decide⟩
set_option maxRecDepth 100000 in
theorem pf_X3_57 : a_pf aYY aBB aMX aRR RX3 (1, 159, 5, 6, 3) := ⟨_, rfl, by decide, by decide +kernel, tW5 59 rfl rfl⟩
set_option maxRecDepth 100000 in
theorem pf_X3_58 : a_pf aYY aBB aMX aRR RX3 (8, 162, 41, 303, 0) := ⟨fun _ => ⟨ca_Maker_keepFirst, tW5 153 rfl rfl, tW5 155 rfl rfl, by decide, by decide +kernel, _, rfl, sW 49 rfl rfl⟩, (fun h => absurd h (by decide)), (fun h => absurd h (by decide)), (fun h => absurd h (by decide)), by decide⟩
set_option maxRecDepth 100000 in
theorem pf_X3_59 : a_pf aYY aBB aMX aRR RX3 (1, 166, 5, 5, 3) := ⟨_, rfl, by decide, by decide +kernel, tW5 57 rfl rfl⟩
set_option maxRecDepth 100000 in
theorem pa_X3 : ∀ e ∈ po_X3, a_pf aYY aBB aMX aRR RX3 e := List.forall_mem_cons.mpr ⟨pf_X3_0, List.forall_mem_cons.mpr ⟨pf_X3_1, List.forall_mem_cons.mpr ⟨pf_X3_2, List.forall_mem_cons.mpr ⟨pf_X3_3, List.forall_mem_cons.mpr ⟨pf_X3_4, List.forall_mem_cons.mpr ⟨pf_X3_5, List.forall_mem_cons.mpr ⟨pf_X3_6, List.forall_mem_cons.mpr ⟨pf_X3_7, List.forall_mem_cons.mpr ⟨pf_X3_8, List.forall_mem_cons.mpr ⟨pf_X3_9, List.forall_mem_cons.mpr ⟨pf_X3_10, List.forall_mem_cons.mpr ⟨pf_X3_11, List.forall_mem_cons.mpr ⟨pf_X3_12, List.forall_mem_cons.mpr ⟨pf_X3_13, List.forall_mem_cons.mpr ⟨pf_X3_14, List.forall_mem_cons.mpr ⟨pf_X3_15, List.forall_mem_cons.mpr ⟨pf_X3_16, List.forall_mem_cons.mpr ⟨pf_X3_17, List.forall_mem_cons.mpr ⟨pf_X3_18, List.forall_mem_cons.mpr ⟨pf_X3_19, List.forall_mem_cons.mpr ⟨pf_X3_20, List.forall_mem_cons.mpr ⟨pf_X3_21, List.forall_mem_cons.mpr ⟨pf_X3_22, List.forall_mem_cons.mpr ⟨pf_X3_23, List.forall_mem_cons.mpr ⟨pf_X3_24, List.forall_mem_cons.mpr ⟨pf_X3_25, List.forall_mem_cons.mpr ⟨pf_X3_26, List.forall_mem_cons.mpr ⟨pf_X3_27, List.forall_mem_cons.mpr ⟨pf_X3_28, List.forall_mem_cons.mpr ⟨pf_X3_29, List.forall_mem_cons.mpr ⟨pf_X3_30, List.forall_mem_cons.mpr ⟨pf_X3_31, List.forall_mem_cons.mpr ⟨pf_X3_32, List.forall_mem_cons.mpr ⟨pf_X3_33, List.forall_mem_cons.mpr ⟨pf_X3_34, List.forall_mem_cons.mpr ⟨pf_X3_35, List.forall_mem_cons.mpr ⟨pf_X3_36, List.forall_mem_cons.mpr ⟨pf_X3_37, List.forall_mem_cons.mpr ⟨pf_X3_38, List.forall_mem_cons.mpr ⟨pf_X3_39, List.forall_mem_cons.mpr ⟨pf_X3_40, List.forall_mem_cons.mpr ⟨pf_X3_41, List.forall_mem_cons.mpr ⟨pf_X3_42, List.forall_mem_cons.mpr ⟨pf_X3_43, List.forall_mem_cons.mpr ⟨pf_X3_44, List.forall_mem_cons.mpr ⟨pf_X3_45, List.forall_mem_cons.mpr ⟨pf_X3_46, List.forall_mem_cons.mpr ⟨pf_X3_47, List.forall_mem_cons.mpr ⟨pf_X3_48, List.forall_mem_cons.mpr ⟨pf_X3_49, List.forall_mem_cons.mpr ⟨pf_X3_50, List.forall_mem_cons.mpr ⟨pf_X3_51, List.forall_mem_cons.mpr ⟨pf_X3_52, List.forall_mem_cons.mpr ⟨pf_X3_53, List.forall_mem_cons.mpr ⟨pf_X3_54, List.forall_mem_cons.mpr ⟨pf_X3_55, List.forall_mem_cons.mpr ⟨pf_X3_56, List.forall_mem_cons.mpr ⟨pf_X3_57, List.forall_mem_cons.mpr ⟨pf_X3_58, List.forall_mem_cons.mpr ⟨pf_X3_59, (fun _ h => absurd h List.not_mem_nil)⟩⟩⟩⟩⟩⟩⟩⟩⟩⟩⟩⟩⟩⟩⟩⟩⟩⟩⟩⟩⟩⟩⟩⟩⟩⟩⟩⟩⟩⟩⟩⟩⟩⟩⟩⟩⟩⟩⟩⟩⟩⟩⟩⟩⟩⟩⟩⟩⟩⟩⟩⟩⟩⟩⟩⟩⟩⟩⟩⟩
def kI_X3 : List (Nat × Int32) := []
set_option maxRecDepth 100000 in
theorem ka_X3 : ∀ e ∈ kI_X3, Jvm.Cond.constant RX3 e.1 e.2 ∈ aW := (fun _ h => absurd h List.not_mem_nil)
def kL_X3 : List (Nat × Int64) := [(86, 1000000000), (131, (-1))]
set_option maxRecDepth 100000 in
theorem kb_X3 : ∀ e ∈ kL_X3, Jvm.Cond.constantLong RX3 e.1 e.2 ∈ aW := List.forall_mem_cons.mpr ⟨tW5 161 rfl rfl, List.forall_mem_cons.mpr ⟨tW5 135 rfl rfl, (fun _ h => absurd h List.not_mem_nil)⟩⟩
def po_X4 : List (Nat × Nat × Nat × Nat × Nat) := [(9, 5, 0, 0, 10), (2, 11, 4, 0, 1), (2, 15, 4, 1, 0), (2, 19, 4, 2, 0), (2, 22, 4, 6, 3), (2, 26, 4, 7, 3), (2, 30, 4, 8, 1), (11, 33, 4, 9, 3), (11, 37, 4, 10, 3), (11, 40, 4, 11, 3), (11, 43, 4, 12, 3), (2, 46, 4, 13, 0), (2, 49, 4, 14, 0), (11, 52, 4, 3, 3), (11, 56, 4, 4, 3), (11, 60, 4, 5, 3), (1, 11, 4, 0, 1), (1, 30, 4, 8, 1), (1, 60, 4, 5, 3), (1, 52, 4, 3, 3), (1, 64, 7, 3, 3), (8, 69, 10, 201, 1), (1, 22, 4, 6, 3), (1, 26, 4, 7, 3), (6, 75, 17, 12, 0), (6, 76, 18, 13, 0), (1, 37, 4, 10, 3), (8, 77, 84, 207, 1), (8, 80, 50, 104, 0), (1, 46, 4, 13, 0), (8, 83, 51, 204, 0), (8, 87, 54, 204, 0), (8, 90, 56, 104, 0), (8, 93, 57, 104, 0), (8, 96, 82, 307, 1), (1, 40, 4, 11, 3), (8, 100, 47, 204, 1), (8, 103, 45, 304, 1), (10, 107, 245, 100, 1), (1, 49, 4, 14, 0), (10, 112, 0, 0, 15), (1, 33, 4, 9, 3), (10, 117, 251, 200, 0), (1, 56, 4, 4, 3), (8, 123, 1, 500, 0), (10, 129, 49, 400, 1), (8, 133, 2, 400, 1), (8, 137, 48, 204, 1), (8, 140, 52, 604, 0), (10, 144, 53, 200, 2), (10, 148, 0, 0, 17), (10, 156, 250, 400, 0), (10, 160, 252, 400, 0), (1, 43, 4, 12, 3), (8, 163, 55, 404, 0), (8, 167, 8, 401, 1), (1, 15, 4, 1, 0), (8, 171, 58, 304, 1)]
set_option maxRecDepth 100000 in
theorem pf_X4_0 : a_pf aYY aBB aMX aRR RX4 (9, 5, 0, 0, 10) := ⟨(fun h => absurd h (by decide)), fun _ => ⟨rfl, tW2 13 rfl rfl, tW1 29 rfl rfl, tW1 30 rfl rfl⟩, by decide⟩
set_option maxRecDepth 100000 in
theorem pf_X4_1 : a_pf aYY aBB aMX aRR RX4 (2, 11, 4, 0, 1) := ⟨_, rfl, by decide, by decide +kernel, tW2 14 rfl rfl, rfl⟩
set_option maxRecDepth 100000 in
theorem pf_X4_2 : a_pf aYY aBB aMX aRR RX4 (2, 15, 4, 1, 0) := ⟨_, rfl, by decide, by decide +kernel, tW2 16 rfl rfl, rfl⟩
set_option maxRecDepth 100000 in
theorem pf_X4_3 : a_pf aYY aBB aMX aRR RX4 (2, 19, 4, 2, 0) := ⟨_, rfl, by decide, by decide +kernel, tW2 18 rfl rfl, rfl⟩
set_option maxRecDepth 100000 in
theorem pf_X4_4 : a_pf aYY aBB aMX aRR RX4 (2, 22, 4, 6, 3) := ⟨_, rfl, by decide, by decide +kernel, tW2 23 rfl rfl, rfl⟩
set_option maxRecDepth 100000 in
theorem pf_X4_5 : a_pf aYY aBB aMX aRR RX4 (2, 26, 4, 7, 3) := ⟨_, rfl, by decide, by decide +kernel, tW2 24 rfl rfl, rfl⟩
set_option maxRecDepth 100000 in
theorem pf_X4_6 : a_pf aYY aBB aMX aRR RX4 (2, 30, 4, 8, 1) := ⟨_, rfl, by decide, by decide +kernel, tW2 25 rfl rfl, rfl⟩
set_option maxRecDepth 100000 in
theorem pf_X4_7 : a_pf aYY aBB aMX aRR RX4 (11, 33, 4, 9, 3) := ⟨_, rfl, by decide, by decide +kernel, tW2 26 rfl rfl, rfl, rfl⟩
set_option maxRecDepth 100000 in
theorem pf_X4_8 : a_pf aYY aBB aMX aRR RX4 (11, 37, 4, 10, 3) := ⟨_, rfl, by decide, by decide +kernel, tW2 27 rfl rfl, rfl, rfl⟩
set_option maxRecDepth 100000 in
theorem pf_X4_9 : a_pf aYY aBB aMX aRR RX4 (11, 40, 4, 11, 3) := ⟨_, rfl, by decide, by decide +kernel, tW2 28 rfl rfl, rfl, rfl⟩
set_option maxRecDepth 100000 in
theorem pf_X4_10 : a_pf aYY aBB aMX aRR RX4 (11, 43, 4, 12, 3) := ⟨_, rfl, by decide, by decide +kernel, tW2 29 rfl rfl, rfl, rfl⟩
set_option maxRecDepth 100000 in
theorem pf_X4_11 : a_pf aYY aBB aMX aRR RX4 (2, 46, 4, 13, 0) := ⟨_, rfl, by decide, by decide +kernel, tW2 30 rfl rfl, rfl⟩
set_option maxRecDepth 100000 in
theorem pf_X4_12 : a_pf aYY aBB aMX aRR RX4 (2, 49, 4, 14, 0) := ⟨_, rfl, by decide, by decide +kernel, tW2 31 rfl rfl, rfl⟩
set_option maxRecDepth 100000 in
theorem pf_X4_13 : a_pf aYY aBB aMX aRR RX4 (11, 52, 4, 3, 3) := ⟨_, rfl, by decide, by decide +kernel, tW2 20 rfl rfl, rfl, rfl⟩
set_option maxRecDepth 100000 in
theorem pf_X4_14 : a_pf aYY aBB aMX aRR RX4 (11, 56, 4, 4, 3) := ⟨_, rfl, by decide, by decide +kernel, tW2 21 rfl rfl, rfl, rfl⟩
set_option maxRecDepth 100000 in
theorem pf_X4_15 : a_pf aYY aBB aMX aRR RX4 (11, 60, 4, 5, 3) := ⟨_, rfl, by decide, by decide +kernel, tW2 22 rfl rfl, rfl, rfl⟩
set_option maxRecDepth 100000 in
theorem pf_X4_16 : a_pf aYY aBB aMX aRR RX4 (1, 11, 4, 0, 1) := ⟨_, rfl, by decide, by decide +kernel, tW2 14 rfl rfl⟩
set_option maxRecDepth 100000 in
theorem pf_X4_17 : a_pf aYY aBB aMX aRR RX4 (1, 30, 4, 8, 1) := ⟨_, rfl, by decide, by decide +kernel, tW2 25 rfl rfl⟩
set_option maxRecDepth 100000 in
theorem pf_X4_18 : a_pf aYY aBB aMX aRR RX4 (1, 60, 4, 5, 3) := ⟨_, rfl, by decide, by decide +kernel, tW2 22 rfl rfl⟩
set_option maxRecDepth 100000 in
theorem pf_X4_19 : a_pf aYY aBB aMX aRR RX4 (1, 52, 4, 3, 3) := ⟨_, rfl, by decide, by decide +kernel, tW2 20 rfl rfl⟩
set_option maxRecDepth 100000 in
theorem pf_X4_20 : a_pf aYY aBB aMX aRR RX4 (1, 64, 7, 3, 3) := ⟨_, rfl, by decide, by decide +kernel, tW1 98 rfl rfl⟩
set_option maxRecDepth 100000 in
theorem pf_X4_21 : a_pf aYY aBB aMX aRR RX4 (8, 69, 10, 201, 1) := ⟨fun _ => ⟨ca_Hands_firstBarred, tW4 145 rfl rfl, tW4 146 rfl rfl, by decide, by decide +kernel, _, rfl, tW4 147 rfl rfl⟩, (fun h => absurd h (by decide)), (fun h => absurd h (by decide)), (fun h => absurd h (by decide)), by decide⟩
set_option maxRecDepth 100000 in
theorem pf_X4_22 : a_pf aYY aBB aMX aRR RX4 (1, 22, 4, 6, 3) := ⟨_, rfl, by decide, by decide +kernel, tW2 23 rfl rfl⟩
set_option maxRecDepth 100000 in
theorem pf_X4_23 : a_pf aYY aBB aMX aRR RX4 (1, 26, 4, 7, 3) := ⟨_, rfl, by decide, by decide +kernel, tW2 24 rfl rfl⟩
set_option maxRecDepth 100000 in
theorem pf_X4_24 : a_pf aYY aBB aMX aRR RX4 (6, 75, 17, 12, 0) := ⟨_, Or.inl ⟨rfl, rfl, rfl⟩, tW4 157 rfl rfl, tW1 221 rfl rfl, tW1 86 rfl rfl⟩
set_option maxRecDepth 100000 in
theorem pf_X4_25 : a_pf aYY aBB aMX aRR RX4 (6, 76, 18, 13, 0) := ⟨_, Or.inr ⟨rfl, rfl, rfl⟩, tW4 158 rfl rfl, tW4 159 rfl rfl, tW1 213 rfl rfl⟩
set_option maxRecDepth 100000 in
theorem pf_X4_26 : a_pf aYY aBB aMX aRR RX4 (1, 37, 4, 10, 3) := ⟨_, rfl, by decide, by decide +kernel, tW2 27 rfl rfl⟩
set_option maxRecDepth 100000 in
theorem pf_X4_27 : a_pf aYY aBB aMX aRR RX4 (8, 77, 84, 207, 1) := ⟨fun _ => ⟨ca_Scene_onBits, tW4 160 rfl rfl, tW4 57 rfl rfl, by decide, by decide +kernel, _, rfl, tW4 58 rfl rfl⟩, (fun h => absurd h (by decide)), (fun h => absurd h (by decide)), (fun h => absurd h (by decide)), by decide⟩
set_option maxRecDepth 100000 in
theorem pf_X4_28 : a_pf aYY aBB aMX aRR RX4 (8, 80, 50, 104, 0) := ⟨fun _ => ⟨ca_Planner_fillCosts, tW4 161 rfl rfl, tW4 163 rfl rfl, by decide, by decide +kernel, _, rfl, sW 27 rfl rfl⟩, (fun h => absurd h (by decide)), (fun h => absurd h (by decide)), (fun h => absurd h (by decide)), by decide⟩
set_option maxRecDepth 100000 in
theorem pf_X4_29 : a_pf aYY aBB aMX aRR RX4 (1, 46, 4, 13, 0) := ⟨_, rfl, by decide, by decide +kernel, tW2 30 rfl rfl⟩
set_option maxRecDepth 100000 in
theorem pf_X4_30 : a_pf aYY aBB aMX aRR RX4 (8, 83, 51, 204, 0) := ⟨fun _ => ⟨ca_Planner_carryBack, tW4 175 rfl rfl, tW4 177 rfl rfl, by decide, by decide +kernel, _, rfl, sW 29 rfl rfl⟩, (fun h => absurd h (by decide)), (fun h => absurd h (by decide)), (fun h => absurd h (by decide)), by decide⟩
set_option maxRecDepth 100000 in
theorem pf_X4_31 : a_pf aYY aBB aMX aRR RX4 (8, 87, 54, 204, 0) := ⟨fun _ => ⟨ca_Planner_keepHoldings, tW4 195 rfl rfl, tW4 197 rfl rfl, by decide, by decide +kernel, _, rfl, sW 32 rfl rfl⟩, (fun h => absurd h (by decide)), (fun h => absurd h (by decide)), (fun h => absurd h (by decide)), by decide⟩
set_option maxRecDepth 100000 in
theorem pf_X4_32 : a_pf aYY aBB aMX aRR RX4 (8, 90, 56, 104, 0) := ⟨fun _ => ⟨ca_Planner_sumUp, tW4 210 rfl rfl, tW4 212 rfl rfl, by decide, by decide +kernel, _, rfl, sW 34 rfl rfl⟩, (fun h => absurd h (by decide)), (fun h => absurd h (by decide)), (fun h => absurd h (by decide)), by decide⟩
set_option maxRecDepth 100000 in
theorem pf_X4_33 : a_pf aYY aBB aMX aRR RX4 (8, 93, 57, 104, 0) := ⟨fun _ => ⟨ca_Planner_followFirst, tW4 214 rfl rfl, tW4 216 rfl rfl, by decide, by decide +kernel, _, rfl, sW 35 rfl rfl⟩, (fun h => absurd h (by decide)), (fun h => absurd h (by decide)), (fun h => absurd h (by decide)), by decide⟩
set_option maxRecDepth 100000 in
theorem pf_X4_34 : a_pf aYY aBB aMX aRR RX4 (8, 96, 82, 307, 1) := ⟨fun _ => ⟨ca_Scene_isOn, tW4 230 rfl rfl, tW3 26 rfl rfl, by decide, by decide +kernel, _, rfl, tW3 27 rfl rfl⟩, (fun h => absurd h (by decide)), (fun h => absurd h (by decide)), (fun h => absurd h (by decide)), by decide⟩
set_option maxRecDepth 100000 in
theorem pf_X4_35 : a_pf aYY aBB aMX aRR RX4 (1, 40, 4, 11, 3) := ⟨_, rfl, by decide, by decide +kernel, tW2 28 rfl rfl⟩
set_option maxRecDepth 100000 in
theorem pf_X4_36 : a_pf aYY aBB aMX aRR RX4 (8, 100, 47, 204, 1) := ⟨fun _ => ⟨ca_Planner_holderOf, tW4 166 rfl rfl, tW4 168 rfl rfl, by decide, by decide +kernel, _, rfl, sW 28 rfl rfl⟩, (fun h => absurd h (by decide)), (fun h => absurd h (by decide)), (fun h => absurd h (by decide)), by decide⟩
set_option maxRecDepth 100000 in
theorem pf_X4_37 : a_pf aYY aBB aMX aRR RX4 (8, 103, 45, 304, 1) := ⟨fun _ => ⟨ca_Planner_holderAt, tW4 239 rfl rfl, tW4 227 rfl rfl, by decide, by decide +kernel, _, rfl, tW4 228 rfl rfl⟩, (fun h => absurd h (by decide)), (fun h => absurd h (by decide)), (fun h => absurd h (by decide)), by decide⟩
set_option maxRecDepth 100000 in
theorem pf_X4_38 : a_pf aYY aBB aMX aRR RX4 (10, 107, 245, 100, 1) := ⟨fun _ => ⟨ca_J_bitI, Or.inl (tW4 183 rfl rfl), tW3 67 rfl rfl, by decide +kernel⟩, (fun h => absurd h (by decide)), (fun h => absurd h (by decide)), (fun h => absurd h (by decide)), (fun h => absurd h (by decide)), (fun h => absurd h (by decide)), (fun h => absurd h (by decide)), by decide⟩
set_option maxRecDepth 100000 in
theorem pf_X4_39 : a_pf aYY aBB aMX aRR RX4 (1, 49, 4, 14, 0) := ⟨_, rfl, by decide, by decide +kernel, tW2 31 rfl rfl⟩
set_option maxRecDepth 100000 in
theorem pf_X4_40 : a_pf aYY aBB aMX aRR RX4 (10, 112, 0, 0, 15) := ⟨(fun h => absurd h (by decide)), (fun h => absurd h (by decide)), fun _ => ⟨rfl, tW4 184 rfl rfl⟩, (fun h => absurd h (by decide)), (fun h => absurd h (by decide)), (fun h => absurd h (by decide)), (fun h => absurd h (by decide)), by decide⟩
set_option maxRecDepth 100000 in
theorem pf_X4_41 : a_pf aYY aBB aMX aRR RX4 (1, 33, 4, 9, 3) := ⟨_, rfl, by decide, by decide +kernel, tW2 26 rfl rfl⟩
set_option maxRecDepth 100000 in
theorem pf_X4_42 : a_pf aYY aBB aMX aRR RX4 (10, 117, 251, 200, 0) := ⟨fun _ => ⟨ca_J_fillI, Or.inl (tW4 165 rfl rfl), tW4 0 rfl rfl, by decide +kernel⟩, (fun h => absurd h (by decide)), (fun h => absurd h (by decide)), (fun h => absurd h (by decide)), (fun h => absurd h (by decide)), (fun h => absurd h (by decide)), (fun h => absurd h (by decide)), by decide⟩
set_option maxRecDepth 100000 in
theorem pf_X4_43 : a_pf aYY aBB aMX aRR RX4 (1, 56, 4, 4, 3) := ⟨_, rfl, by decide, by decide +kernel, tW2 21 rfl rfl⟩
set_option maxRecDepth 100000 in
theorem pf_X4_44 : a_pf aYY aBB aMX aRR RX4 (8, 123, 1, 500, 0) := ⟨fun _ => ⟨ca_Asker_turnTo, tW4 170 rfl rfl, tW4 83 rfl rfl, by decide, by decide +kernel, _, rfl, tW4 84 rfl rfl⟩, (fun h => absurd h (by decide)), (fun h => absurd h (by decide)), (fun h => absurd h (by decide)), by decide⟩
set_option maxRecDepth 100000 in
theorem pf_X4_45 : a_pf aYY aBB aMX aRR RX4 (10, 129, 49, 400, 1) := ⟨fun _ => ⟨ca_Planner_costAt, Or.inl (tW4 171 rfl rfl), tW4 172 rfl rfl, by decide +kernel⟩, (fun h => absurd h (by decide)), (fun h => absurd h (by decide)), (fun h => absurd h (by decide)), (fun h => absurd h (by decide)), (fun h => absurd h (by decide)), (fun h => absurd h (by decide)), by decide⟩
set_option maxRecDepth 100000 in
theorem pf_X4_46 : a_pf aYY aBB aMX aRR RX4 (8, 133, 2, 400, 1) := ⟨fun _ => ⟨ca_Asker_tellLast, tW4 174 rfl rfl, tW4 89 rfl rfl, by decide, by decide +kernel, _, rfl, tW4 90 rfl rfl⟩, (fun h => absurd h (by decide)), (fun h => absurd h (by decide)), (fun h => absurd h (by decide)), by decide⟩
set_option maxRecDepth 100000 in
theorem pf_X4_47 : a_pf aYY aBB aMX aRR RX4 (8, 137, 48, 204, 1) := ⟨fun _ => ⟨ca_Planner_sizeOf, tW4 179 rfl rfl, tW4 181 rfl rfl, by decide, by decide +kernel, _, rfl, sW 30 rfl rfl⟩, (fun h => absurd h (by decide)), (fun h => absurd h (by decide)), (fun h => absurd h (by decide)), by decide⟩
set_option maxRecDepth 100000 in
theorem pf_X4_48 : a_pf aYY aBB aMX aRR RX4 (8, 140, 52, 604, 0) := ⟨fun _ => ⟨ca_Planner_mix, tW4 185 rfl rfl, tW4 187 rfl rfl, by decide, by decide +kernel, _, rfl, sW 31 rfl rfl⟩, (fun h => absurd h (by decide)), (fun h => absurd h (by decide)), (fun h => absurd h (by decide)), by decide⟩
set_option maxRecDepth 100000 in
theorem pf_X4_49 : a_pf aYY aBB aMX aRR RX4 (10, 144, 53, 200, 2) := ⟨fun _ => ⟨ca_Planner_either, Or.inl (tW4 189 rfl rfl), tW4 190 rfl rfl, by decide +kernel⟩, (fun h => absurd h (by decide)), (fun h => absurd h (by decide)), (fun h => absurd h (by decide)), (fun h => absurd h (by decide)), (fun h => absurd h (by decide)), (fun h => absurd h (by decide)), by decide⟩
set_option maxRecDepth 100000 in
theorem pf_X4_50 : a_pf aYY aBB aMX aRR RX4 (10, 148, 0, 0, 17) := ⟨(fun h => absurd h (by decide)), (fun h => absurd h (by decide)), (fun h => absurd h (by decide)), (fun h => absurd h (by decide)), fun _ => ⟨rfl, tW4 192 rfl rfl⟩, (fun h => absurd h (by decide)), (fun h => absurd h (by decide)), by decide⟩
set_option maxRecDepth 100000 in
theorem pf_X4_51 : a_pf aYY aBB aMX aRR RX4 (10, 156, 250, 400, 0) := ⟨fun _ => ⟨ca_J_fillLr, Or.inl (tW4 200 rfl rfl), tW4 201 rfl rfl, by decide +kernel⟩, (fun h => absurd h (by decide)), (fun h => absurd h (by decide)), (fun h => absurd h (by decide)), (fun h => absurd h (by decide)), (fun h => absurd h (by decide)), (fun h => absurd h (by decide)), by decide⟩
set_option maxRecDepth 100000 in
theorem pf_X4_52 : a_pf aYY aBB aMX aRR RX4 (10, 160, 252, 400, 0) := ⟨fun _ => ⟨ca_J_fillIr, Or.inl (tW4 204 rfl rfl), tW3 180 rfl rfl, by decide +kernel⟩, (fun h => absurd h (by decide)), (fun h => absurd h (by decide)), (fun h => absurd h (by decide)), (fun h => absurd h (by decide)), (fun h => absurd h (by decide)), (fun h => absurd h (by decide)), by decide⟩
set_option maxRecDepth 100000 in
theorem pf_X4_53 : a_pf aYY aBB aMX aRR RX4 (1, 43, 4, 12, 3) := ⟨_, rfl, by decide, by decide +kernel, tW2 29 rfl rfl⟩
set_option maxRecDepth 100000 in
theorem pf_X4_54 : a_pf aYY aBB aMX aRR RX4 (8, 163, 55, 404, 0) := ⟨fun _ => ⟨ca_Planner_give, tW4 205 rfl rfl, tW4 207 rfl rfl, by decide, by decide +kernel, _, rfl, sW 33 rfl rfl⟩, (fun h => absurd h (by decide)), (fun h => absurd h (by decide)), (fun h => absurd h (by decide)), by decide⟩
set_option maxRecDepth 100000 in
theorem pf_X4_55 : a_pf aYY aBB aMX aRR RX4 (8, 167, 8, 401, 1) := ⟨fun _ => ⟨ca_Hands_canHold, tW4 209 rfl rfl, tW4 122 rfl rfl, by decide, by decide +kernel, _, rfl, tW4 123 rfl rfl⟩, (fun h => absurd h (by decide)), (fun h => absurd h (by decide)), (fun h => absurd h (by decide)), by decide⟩
set_option maxRecDepth 100000 in
theorem pf_X4_56 : a_pf aYY aBB aMX aRR RX4 (1, 15, 4, 1, 0) := ⟨_, rfl, by decide, by decide +kernel, tW2 16 rfl rfl⟩
set_option maxRecDepth 100000 in
theorem pf_X4_57 : a_pf aYY aBB aMX aRR RX4 (8, 171, 58, 304, 1) := ⟨fun _ => ⟨ca_Planner_passTo, tW4 218 rfl rfl, tW4 220 rfl rfl, by decide, by decide +kernel, _, rfl, sW 36 rfl rfl⟩, (fun h => absurd h (by decide)), (fun h => absurd h (by decide)), (fun h => absurd h (by decide)), by decide⟩
set_option maxRecDepth 100000 in
theorem pa_X4 : ∀ e ∈ po_X4, a_pf aYY aBB aMX aRR RX4 e := List.forall_mem_cons.mpr ⟨pf_X4_0, List.forall_mem_cons.mpr ⟨pf_X4_1, List.forall_mem_cons.mpr ⟨pf_X4_2, List.forall_mem_cons.mpr ⟨pf_X4_3, List.forall_mem_cons.mpr ⟨pf_X4_4, List.forall_mem_cons.mpr ⟨pf_X4_5, List.forall_mem_cons.mpr ⟨pf_X4_6, List.forall_mem_cons.mpr ⟨pf_X4_7, List.forall_mem_cons.mpr ⟨pf_X4_8, List.forall_mem_cons.mpr ⟨pf_X4_9, List.forall_mem_cons.mpr ⟨pf_X4_10, List.forall_mem_cons.mpr ⟨pf_X4_11, List.forall_mem_cons.mpr ⟨pf_X4_12, List.forall_mem_cons.mpr ⟨pf_X4_13, List.forall_mem_cons.mpr ⟨pf_X4_14, List.forall_mem_cons.mpr ⟨pf_X4_15, List.forall_mem_cons.mpr ⟨pf_X4_16, List.forall_mem_cons.mpr ⟨pf_X4_17, List.forall_mem_cons.mpr ⟨pf_X4_18, List.forall_mem_cons.mpr ⟨pf_X4_19, List.forall_mem_cons.mpr ⟨pf_X4_20, List.forall_mem_cons.mpr ⟨pf_X4_21, List.forall_mem_cons.mpr ⟨pf_X4_22, List.forall_mem_cons.mpr ⟨pf_X4_23, List.forall_mem_cons.mpr ⟨pf_X4_24, List.forall_mem_cons.mpr ⟨pf_X4_25, List.forall_mem_cons.mpr ⟨pf_X4_26, List.forall_mem_cons.mpr ⟨pf_X4_27, List.forall_mem_cons.mpr ⟨pf_X4_28, List.forall_mem_cons.mpr ⟨pf_X4_29, List.forall_mem_cons.mpr ⟨pf_X4_30, List.forall_mem_cons.mpr ⟨pf_X4_31, List.forall_mem_cons.mpr ⟨pf_X4_32, List.forall_mem_cons.mpr ⟨pf_X4_33, List.forall_mem_cons.mpr ⟨pf_X4_34, List.forall_mem_cons.mpr ⟨pf_X4_35, List.forall_mem_cons.mpr ⟨pf_X4_36, List.forall_mem_cons.mpr ⟨pf_X4_37, List.forall_mem_cons.mpr ⟨pf_X4_38, List.forall_mem_cons.mpr ⟨pf_X4_39, List.forall_mem_cons.mpr ⟨pf_X4_40, List.forall_mem_cons.mpr ⟨pf_X4_41, List.forall_mem_cons.mpr ⟨pf_X4_42, List.forall_mem_cons.mpr ⟨pf_X4_43, List.forall_mem_cons.mpr ⟨pf_X4_44, List.forall_mem_cons.mpr ⟨pf_X4_45, List.forall_mem_cons.mpr ⟨pf_X4_46, List.forall_mem_cons.mpr ⟨pf_X4_47, List.forall_mem_cons.mpr ⟨pf_X4_48, List.forall_mem_cons.mpr ⟨pf_X4_49, List.forall_mem_cons.mpr ⟨pf_X4_50, List.forall_mem_cons.mpr ⟨pf_X4_51, List.forall_mem_cons.mpr ⟨pf_X4_52, List.forall_mem_cons.mpr ⟨pf_X4_53, List.forall_mem_cons.mpr ⟨pf_X4_54, List.forall_mem_cons.mpr ⟨pf_X4_55, List.forall_mem_cons.mpr ⟨pf_X4_56, List.forall_mem_cons.mpr ⟨pf_X4_57, (fun _ h => absurd h List.not_mem_nil)⟩⟩⟩⟩⟩⟩⟩⟩⟩⟩⟩⟩⟩⟩⟩⟩⟩⟩⟩⟩⟩⟩⟩⟩⟩⟩⟩⟩⟩⟩⟩⟩⟩⟩⟩⟩⟩⟩⟩⟩⟩⟩⟩⟩⟩⟩⟩⟩⟩⟩⟩⟩⟩⟩⟩⟩⟩⟩
def kI_X4 : List (Nat × Int32) := [(159, 1048576)]
set_option maxRecDepth 100000 in
theorem ka_X4 : ∀ e ∈ kI_X4, Jvm.Cond.constant RX4 e.1 e.2 ∈ aW := List.forall_mem_cons.mpr ⟨tW4 203 rfl rfl, (fun _ h => absurd h List.not_mem_nil)⟩
def kL_X4 : List (Nat × Int64) := [(150, 1000000000), (152, 4294967295), (154, 4503599627370496)]
set_option maxRecDepth 100000 in
theorem kb_X4 : ∀ e ∈ kL_X4, Jvm.Cond.constantLong RX4 e.1 e.2 ∈ aW := List.forall_mem_cons.mpr ⟨tW4 193 rfl rfl, List.forall_mem_cons.mpr ⟨tW4 194 rfl rfl, List.forall_mem_cons.mpr ⟨tW4 199 rfl rfl, (fun _ h => absurd h List.not_mem_nil)⟩⟩⟩
def po_X5 : List (Nat × Nat × Nat × Nat × Nat) := [(9, 3, 0, 0, 10), (2, 9, 5, 0, 0), (2, 15, 5, 1, 0), (2, 18, 5, 2, 2), (11, 22, 5, 3, 3), (11, 26, 5, 4, 3), (11, 32, 5, 5, 3), (11, 35, 5, 6, 3), (11, 38, 5, 7, 3), (11, 41, 5, 8, 3), (1, 38, 5, 7, 3), (10, 44, 251, 200, 0), (1, 32, 5, 5, 3), (10, 50, 249, 200, 0), (1, 35, 5, 6, 3), (1, 53, 9, 2, 0), (1, 56, 9, 5, 3), (10, 60, 0, 0, 15), (1, 66, 9, 6, 3), (10, 69, 61, 600, 1), (10, 73, 62, 600, 2), (8, 77, 63, 305, 0), (1, 81, 7, 1, 3), (1, 86, 9, 7, 3), (1, 89, 9, 0, 0), (1, 92, 9, 3, 3), (1, 95, 9, 4, 3), (1, 9, 5, 0, 0), (10, 98, 246, 100, 1), (1, 22, 5, 3, 3), (1, 41, 5, 8, 3), (1, 26, 5, 4, 3), (1, 18, 5, 2, 2), (1, 15, 5, 1, 0), (10, 104, 247, 100, 1), (10, 107, 0, 0, 16)]
set_option maxRecDepth 100000 in
theorem pf_X5_0 : a_pf aYY aBB aMX aRR RX5 (9, 3, 0, 0, 10) := ⟨(fun h => absurd h (by decide)), fun _ => ⟨rfl, tW5 45 rfl rfl, tW1 29 rfl rfl, tW1 30 rfl rfl⟩, by decide⟩
set_option maxRecDepth 100000 in
theorem pf_X5_1 : a_pf aYY aBB aMX aRR RX5 (2, 9, 5, 0, 0) := ⟨_, rfl, by decide, by decide +kernel, tW5 46 rfl rfl, rfl⟩
set_option maxRecDepth 100000 in
theorem pf_X5_2 : a_pf aYY aBB aMX aRR RX5 (2, 15, 5, 1, 0) := ⟨_, rfl, by decide, by decide +kernel, tW5 48 rfl rfl, rfl⟩
set_option maxRecDepth 100000 in
theorem pf_X5_3 : a_pf aYY aBB aMX aRR RX5 (2, 18, 5, 2, 2) := ⟨_, rfl, by decide, by decide +kernel, tW5 50 rfl rfl, rfl⟩
set_option maxRecDepth 100000 in
theorem pf_X5_4 : a_pf aYY aBB aMX aRR RX5 (11, 22, 5, 3, 3) := ⟨_, rfl, by decide, by decide +kernel, tW5 52 rfl rfl, rfl, rfl⟩
set_option maxRecDepth 100000 in
theorem pf_X5_5 : a_pf aYY aBB aMX aRR RX5 (11, 26, 5, 4, 3) := ⟨_, rfl, by decide, by decide +kernel, tW5 54 rfl rfl, rfl, rfl⟩
set_option maxRecDepth 100000 in
theorem pf_X5_6 : a_pf aYY aBB aMX aRR RX5 (11, 32, 5, 5, 3) := ⟨_, rfl, by decide, by decide +kernel, tW5 56 rfl rfl, rfl, rfl⟩
set_option maxRecDepth 100000 in
theorem pf_X5_7 : a_pf aYY aBB aMX aRR RX5 (11, 35, 5, 6, 3) := ⟨_, rfl, by decide, by decide +kernel, tW5 58 rfl rfl, rfl, rfl⟩
set_option maxRecDepth 100000 in
theorem pf_X5_8 : a_pf aYY aBB aMX aRR RX5 (11, 38, 5, 7, 3) := ⟨_, rfl, by decide, by decide +kernel, tW5 60 rfl rfl, rfl, rfl⟩
set_option maxRecDepth 100000 in
theorem pf_X5_9 : a_pf aYY aBB aMX aRR RX5 (11, 41, 5, 8, 3) := ⟨_, rfl, by decide, by decide +kernel, tW5 61 rfl rfl, rfl, rfl⟩
set_option maxRecDepth 100000 in
theorem pf_X5_10 : a_pf aYY aBB aMX aRR RX5 (1, 38, 5, 7, 3) := ⟨_, rfl, by decide, by decide +kernel, tW5 60 rfl rfl⟩
set_option maxRecDepth 100000 in
theorem pf_X5_11 : a_pf aYY aBB aMX aRR RX5 (10, 44, 251, 200, 0) := ⟨fun _ => ⟨ca_J_fillI, Or.inl (tW5 85 rfl rfl), tW4 0 rfl rfl, by decide +kernel⟩, (fun h => absurd h (by decide)), (fun h => absurd h (by decide)), (fun h => absurd h (by decide)), (fun h => absurd h (by decide)), (fun h => absurd h (by decide)), (fun h => absurd h (by decide)), by decide⟩
set_option maxRecDepth 100000 in
theorem pf_X5_12 : a_pf aYY aBB aMX aRR RX5 (1, 32, 5, 5, 3) := ⟨_, rfl, by decide, by decide +kernel, tW5 56 rfl rfl⟩
set_option maxRecDepth 100000 in
theorem pf_X5_13 : a_pf aYY aBB aMX aRR RX5 (10, 50, 249, 200, 0) := ⟨fun _ => ⟨ca_J_fillL, Or.inl (tW5 86 rfl rfl), tW5 87 rfl rfl, by decide +kernel⟩, (fun h => absurd h (by decide)), (fun h => absurd h (by decide)), (fun h => absurd h (by decide)), (fun h => absurd h (by decide)), (fun h => absurd h (by decide)), (fun h => absurd h (by decide)), by decide⟩
set_option maxRecDepth 100000 in
theorem pf_X5_14 : a_pf aYY aBB aMX aRR RX5 (1, 35, 5, 6, 3) := ⟨_, rfl, by decide, by decide +kernel, tW5 58 rfl rfl⟩
set_option maxRecDepth 100000 in
theorem pf_X5_15 : a_pf aYY aBB aMX aRR RX5 (1, 53, 9, 2, 0) := ⟨_, rfl, by decide, by decide +kernel, tW2 82 rfl rfl⟩
set_option maxRecDepth 100000 in
theorem pf_X5_16 : a_pf aYY aBB aMX aRR RX5 (1, 56, 9, 5, 3) := ⟨_, rfl, by decide, by decide +kernel, tW2 88 rfl rfl⟩
set_option maxRecDepth 100000 in
theorem pf_X5_17 : a_pf aYY aBB aMX aRR RX5 (10, 60, 0, 0, 15) := ⟨(fun h => absurd h (by decide)), (fun h => absurd h (by decide)), fun _ => ⟨rfl, tW5 89 rfl rfl⟩, (fun h => absurd h (by decide)), (fun h => absurd h (by decide)), (fun h => absurd h (by decide)), (fun h => absurd h (by decide)), by decide⟩
set_option maxRecDepth 100000 in
theorem pf_X5_18 : a_pf aYY aBB aMX aRR RX5 (1, 66, 9, 6, 3) := ⟨_, rfl, by decide, by decide +kernel, tW2 90 rfl rfl⟩
set_option maxRecDepth 100000 in
theorem pf_X5_19 : a_pf aYY aBB aMX aRR RX5 (10, 69, 61, 600, 1) := ⟨fun _ => ⟨ca_Prints_staysWithin, Or.inl (tW5 90 rfl rfl), tW5 91 rfl rfl, by decide +kernel⟩, (fun h => absurd h (by decide)), (fun h => absurd h (by decide)), (fun h => absurd h (by decide)), (fun h => absurd h (by decide)), (fun h => absurd h (by decide)), (fun h => absurd h (by decide)), by decide⟩
set_option maxRecDepth 100000 in
theorem pf_X5_20 : a_pf aYY aBB aMX aRR RX5 (10, 73, 62, 600, 2) := ⟨fun _ => ⟨ca_Prints_maskAt, Or.inl (tW5 93 rfl rfl), tW5 94 rfl rfl, by decide +kernel⟩, (fun h => absurd h (by decide)), (fun h => absurd h (by decide)), (fun h => absurd h (by decide)), (fun h => absurd h (by decide)), (fun h => absurd h (by decide)), (fun h => absurd h (by decide)), by decide⟩
set_option maxRecDepth 100000 in
theorem pf_X5_21 : a_pf aYY aBB aMX aRR RX5 (8, 77, 63, 305, 0) := ⟨fun _ => ⟨ca_Prints_add, tW5 96 rfl rfl, tW5 98 rfl rfl, by decide, by decide +kernel, _, rfl, sW 40 rfl rfl⟩, (fun h => absurd h (by decide)), (fun h => absurd h (by decide)), (fun h => absurd h (by decide)), by decide⟩
set_option maxRecDepth 100000 in
theorem pf_X5_22 : a_pf aYY aBB aMX aRR RX5 (1, 81, 7, 1, 3) := ⟨_, rfl, by decide, by decide +kernel, tW1 90 rfl rfl⟩
set_option maxRecDepth 100000 in
theorem pf_X5_23 : a_pf aYY aBB aMX aRR RX5 (1, 86, 9, 7, 3) := ⟨_, rfl, by decide, by decide +kernel, tW2 92 rfl rfl⟩
set_option maxRecDepth 100000 in
theorem pf_X5_24 : a_pf aYY aBB aMX aRR RX5 (1, 89, 9, 0, 0) := ⟨_, rfl, by decide, by decide +kernel, tW2 78 rfl rfl⟩
set_option maxRecDepth 100000 in
theorem pf_X5_25 : a_pf aYY aBB aMX aRR RX5 (1, 92, 9, 3, 3) := ⟨_, rfl, by decide, by decide +kernel, tW2 84 rfl rfl⟩
set_option maxRecDepth 100000 in
theorem pf_X5_26 : a_pf aYY aBB aMX aRR RX5 (1, 95, 9, 4, 3) := ⟨_, rfl, by decide, by decide +kernel, tW2 86 rfl rfl⟩
set_option maxRecDepth 100000 in
theorem pf_X5_27 : a_pf aYY aBB aMX aRR RX5 (1, 9, 5, 0, 0) := ⟨_, rfl, by decide, by decide +kernel, tW5 46 rfl rfl⟩
set_option maxRecDepth 100000 in
theorem pf_X5_28 : a_pf aYY aBB aMX aRR RX5 (10, 98, 246, 100, 1) := ⟨fun _ => ⟨ca_J_ntzL, Or.inl (tW5 100 rfl rfl), tW5 101 rfl rfl, by decide +kernel⟩, (fun h => absurd h (by decide)), (fun h => absurd h (by decide)), (fun h => absurd h (by decide)), (fun h => absurd h (by decide)), (fun h => absurd h (by decide)), (fun h => absurd h (by decide)), by decide⟩
set_option maxRecDepth 100000 in
theorem pf_X5_29 : a_pf aYY aBB aMX aRR RX5 (1, 22, 5, 3, 3) := ⟨_, rfl, by decide, by decide +kernel, tW5 52 rfl rfl⟩
set_option maxRecDepth 100000 in
theorem pf_X5_30 : a_pf aYY aBB aMX aRR RX5 (1, 41, 5, 8, 3) := ⟨_, rfl, by decide, by decide +kernel, tW5 61 rfl rfl⟩
set_option maxRecDepth 100000 in
theorem pf_X5_31 : a_pf aYY aBB aMX aRR RX5 (1, 26, 5, 4, 3) := ⟨_, rfl, by decide, by decide +kernel, tW5 54 rfl rfl⟩
set_option maxRecDepth 100000 in
theorem pf_X5_32 : a_pf aYY aBB aMX aRR RX5 (1, 18, 5, 2, 2) := ⟨_, rfl, by decide, by decide +kernel, tW5 50 rfl rfl⟩
set_option maxRecDepth 100000 in
theorem pf_X5_33 : a_pf aYY aBB aMX aRR RX5 (1, 15, 5, 1, 0) := ⟨_, rfl, by decide, by decide +kernel, tW5 48 rfl rfl⟩
set_option maxRecDepth 100000 in
theorem pf_X5_34 : a_pf aYY aBB aMX aRR RX5 (10, 104, 247, 100, 1) := ⟨fun _ => ⟨ca_J_bitL, Or.inl (tW5 107 rfl rfl), tW5 108 rfl rfl, by decide +kernel⟩, (fun h => absurd h (by decide)), (fun h => absurd h (by decide)), (fun h => absurd h (by decide)), (fun h => absurd h (by decide)), (fun h => absurd h (by decide)), (fun h => absurd h (by decide)), by decide⟩
set_option maxRecDepth 100000 in
theorem pf_X5_35 : a_pf aYY aBB aMX aRR RX5 (10, 107, 0, 0, 16) := ⟨(fun h => absurd h (by decide)), (fun h => absurd h (by decide)), (fun h => absurd h (by decide)), fun _ => ⟨rfl, tW5 113 rfl rfl⟩, (fun h => absurd h (by decide)), (fun h => absurd h (by decide)), (fun h => absurd h (by decide)), by decide⟩
set_option maxRecDepth 100000 in
theorem pa_X5 : ∀ e ∈ po_X5, a_pf aYY aBB aMX aRR RX5 e := List.forall_mem_cons.mpr ⟨pf_X5_0, List.forall_mem_cons.mpr ⟨pf_X5_1, List.forall_mem_cons.mpr ⟨pf_X5_2, List.forall_mem_cons.mpr ⟨pf_X5_3, List.forall_mem_cons.mpr ⟨pf_X5_4, List.forall_mem_cons.mpr ⟨pf_X5_5, List.forall_mem_cons.mpr ⟨pf_X5_6, List.forall_mem_cons.mpr ⟨pf_X5_7, List.forall_mem_cons.mpr ⟨pf_X5_8, List.forall_mem_cons.mpr ⟨pf_X5_9, List.forall_mem_cons.mpr ⟨pf_X5_10, List.forall_mem_cons.mpr ⟨pf_X5_11, List.forall_mem_cons.mpr ⟨pf_X5_12, List.forall_mem_cons.mpr ⟨pf_X5_13, List.forall_mem_cons.mpr ⟨pf_X5_14, List.forall_mem_cons.mpr ⟨pf_X5_15, List.forall_mem_cons.mpr ⟨pf_X5_16, List.forall_mem_cons.mpr ⟨pf_X5_17, List.forall_mem_cons.mpr ⟨pf_X5_18, List.forall_mem_cons.mpr ⟨pf_X5_19, List.forall_mem_cons.mpr ⟨pf_X5_20, List.forall_mem_cons.mpr ⟨pf_X5_21, List.forall_mem_cons.mpr ⟨pf_X5_22, List.forall_mem_cons.mpr ⟨pf_X5_23, List.forall_mem_cons.mpr ⟨pf_X5_24, List.forall_mem_cons.mpr ⟨pf_X5_25, List.forall_mem_cons.mpr ⟨pf_X5_26, List.forall_mem_cons.mpr ⟨pf_X5_27, List.forall_mem_cons.mpr ⟨pf_X5_28, List.forall_mem_cons.mpr ⟨pf_X5_29, List.forall_mem_cons.mpr ⟨pf_X5_30, List.forall_mem_cons.mpr ⟨pf_X5_31, List.forall_mem_cons.mpr ⟨pf_X5_32, List.forall_mem_cons.mpr ⟨pf_X5_33, List.forall_mem_cons.mpr ⟨pf_X5_34, List.forall_mem_cons.mpr ⟨pf_X5_35, (fun _ h => absurd h List.not_mem_nil)⟩⟩⟩⟩⟩⟩⟩⟩⟩⟩⟩⟩⟩⟩⟩⟩⟩⟩⟩⟩⟩⟩⟩⟩⟩⟩⟩⟩⟩⟩⟩⟩⟩⟩⟩⟩
def kI_X5 : List (Nat × Int32) := []
set_option maxRecDepth 100000 in
theorem ka_X5 : ∀ e ∈ kI_X5, Jvm.Cond.constant RX5 e.1 e.2 ∈ aW := (fun _ h => absurd h List.not_mem_nil)
def kL_X5 : List (Nat × Int64) := []
set_option maxRecDepth 100000 in
theorem kb_X5 : ∀ e ∈ kL_X5, Jvm.Cond.constantLong RX5 e.1 e.2 ∈ aW := (fun _ h => absurd h List.not_mem_nil)
def po_X6 : List (Nat × Nat × Nat × Nat × Nat) := [(9, 3, 0, 0, 10), (4, 9, 8, 8, 0), (9, 11, 89, 108, 0), (11, 12, 6, 0, 3), (2, 18, 6, 1, 0), (11, 22, 6, 2, 3), (11, 26, 6, 3, 3), (2, 29, 6, 4, 0), (2, 32, 6, 5, 0), (2, 35, 6, 6, 0), (2, 38, 6, 7, 0), (2, 41, 6, 8, 0), (2, 44, 6, 9, 0), (2, 47, 6, 10, 0), (10, 50, 0, 0, 15), (10, 56, 0, 0, 16), (1, 22, 6, 2, 3), (1, 32, 6, 5, 0), (10, 59, 0, 0, 11), (1, 12, 6, 0, 3), (8, 65, 90, 108, 0), (8, 68, 78, 106, 0), (8, 71, 67, 106, 1), (2, 75, 8, 0, 0), (1, 35, 6, 6, 0), (8, 78, 76, 206, 1), (8, 82, 75, 106, 1), (1, 29, 6, 4, 0), (1, 26, 6, 3, 3), (8, 85, 85, 607, 0), (8, 91, 68, 106, 1), (8, 94, 93, 208, 0), (8, 98, 69, 306, 1), (8, 102, 94, 108, 0), (8, 105, 95, 108, 0), (8, 108, 77, 406, 1), (10, 112, 252, 400, 0), (3, 118, 3, 0, 0), (8, 121, 71, 206, 1), (8, 124, 74, 206, 1), (8, 127, 70, 206, 1), (1, 131, 8, 2, 0), (8, 134, 91, 308, 0), (8, 138, 92, 208, 0), (8, 141, 73, 406, 1), (8, 144, 72, 206, 1), (1, 44, 6, 9, 0), (1, 47, 6, 10, 0), (1, 38, 6, 7, 0), (1, 41, 6, 8, 0), (8, 148, 79, 306, 1), (12, 151, 0, 0, 1), (8, 153, 0, 0, 13), (8, 158, 0, 0, 14)]
set_option maxRecDepth 100000 in
theorem pf_X6_0 : a_pf aYY aBB aMX aRR RX6 (9, 3, 0, 0, 10) := ⟨(fun h => absurd h (by decide)), fun _ => ⟨rfl, tW1 145 rfl rfl, tW1 29 rfl rfl, tW1 30 rfl rfl⟩, by decide⟩
set_option maxRecDepth 100000 in
theorem pf_X6_1 : a_pf aYY aBB aMX aRR RX6 (4, 9, 8, 8, 0) := ⟨_, rfl, rfl, tW1 146 rfl rfl, tW1 47 rfl rfl, tW1 3 rfl rfl⟩
set_option maxRecDepth 100000 in
theorem pf_X6_2 : a_pf aYY aBB aMX aRR RX6 (9, 11, 89, 108, 0) := ⟨fun _ => ⟨ca_Script_init, rfl, Or.inr ⟨"ClothPlay", tW1 147 rfl rfl⟩, tW1 49 rfl rfl, rfl, by decide, by decide +kernel, by decide⟩, (fun h => absurd h (by decide)), by decide⟩
set_option maxRecDepth 100000 in
theorem pf_X6_3 : a_pf aYY aBB aMX aRR RX6 (11, 12, 6, 0, 3) := ⟨_, rfl, by decide, by decide +kernel, tW1 148 rfl rfl, rfl, rfl⟩
set_option maxRecDepth 100000 in
theorem pf_X6_4 : a_pf aYY aBB aMX aRR RX6 (2, 18, 6, 1, 0) := ⟨_, rfl, by decide, by decide +kernel, tW1 150 rfl rfl, rfl⟩
set_option maxRecDepth 100000 in
theorem pf_X6_5 : a_pf aYY aBB aMX aRR RX6 (11, 22, 6, 2, 3) := ⟨_, rfl, by decide, by decide +kernel, tW1 152 rfl rfl, rfl, rfl⟩
set_option maxRecDepth 100000 in
theorem pf_X6_6 : a_pf aYY aBB aMX aRR RX6 (11, 26, 6, 3, 3) := ⟨_, rfl, by decide, by decide +kernel, tW1 153 rfl rfl, rfl, rfl⟩
set_option maxRecDepth 100000 in
theorem pf_X6_7 : a_pf aYY aBB aMX aRR RX6 (2, 29, 6, 4, 0) := ⟨_, rfl, by decide, by decide +kernel, tW1 154 rfl rfl, rfl⟩
set_option maxRecDepth 100000 in
theorem pf_X6_8 : a_pf aYY aBB aMX aRR RX6 (2, 32, 6, 5, 0) := ⟨_, rfl, by decide, by decide +kernel, tW1 155 rfl rfl, rfl⟩
set_option maxRecDepth 100000 in
theorem pf_X6_9 : a_pf aYY aBB aMX aRR RX6 (2, 35, 6, 6, 0) := ⟨_, rfl, by decide, by decide +kernel, tW1 156 rfl rfl, rfl⟩
set_option maxRecDepth 100000 in
theorem pf_X6_10 : a_pf aYY aBB aMX aRR RX6 (2, 38, 6, 7, 0) := ⟨_, rfl, by decide, by decide +kernel, tW1 157 rfl rfl, rfl⟩
set_option maxRecDepth 100000 in
theorem pf_X6_11 : a_pf aYY aBB aMX aRR RX6 (2, 41, 6, 8, 0) := ⟨_, rfl, by decide, by decide +kernel, tW1 158 rfl rfl, rfl⟩
set_option maxRecDepth 100000 in
theorem pf_X6_12 : a_pf aYY aBB aMX aRR RX6 (2, 44, 6, 9, 0) := ⟨_, rfl, by decide, by decide +kernel, tW1 159 rfl rfl, rfl⟩
set_option maxRecDepth 100000 in
theorem pf_X6_13 : a_pf aYY aBB aMX aRR RX6 (2, 47, 6, 10, 0) := ⟨_, rfl, by decide, by decide +kernel, tW1 160 rfl rfl, rfl⟩
set_option maxRecDepth 100000 in
theorem pf_X6_14 : a_pf aYY aBB aMX aRR RX6 (10, 50, 0, 0, 15) := ⟨(fun h => absurd h (by decide)), (fun h => absurd h (by decide)), fun _ => ⟨rfl, tW3 96 rfl rfl⟩, (fun h => absurd h (by decide)), (fun h => absurd h (by decide)), (fun h => absurd h (by decide)), (fun h => absurd h (by decide)), by decide⟩
set_option maxRecDepth 100000 in
theorem pf_X6_15 : a_pf aYY aBB aMX aRR RX6 (10, 56, 0, 0, 16) := ⟨(fun h => absurd h (by decide)), (fun h => absurd h (by decide)), (fun h => absurd h (by decide)), fun _ => ⟨rfl, tW3 97 rfl rfl⟩, (fun h => absurd h (by decide)), (fun h => absurd h (by decide)), (fun h => absurd h (by decide)), by decide⟩
set_option maxRecDepth 100000 in
theorem pf_X6_16 : a_pf aYY aBB aMX aRR RX6 (1, 22, 6, 2, 3) := ⟨_, rfl, by decide, by decide +kernel, tW1 152 rfl rfl⟩
set_option maxRecDepth 100000 in
theorem pf_X6_17 : a_pf aYY aBB aMX aRR RX6 (1, 32, 6, 5, 0) := ⟨_, rfl, by decide, by decide +kernel, tW1 155 rfl rfl⟩
set_option maxRecDepth 100000 in
theorem pf_X6_18 : a_pf aYY aBB aMX aRR RX6 (10, 59, 0, 0, 11) := ⟨(fun h => absurd h (by decide)), fun _ => ⟨rfl, tW3 98 rfl rfl⟩, (fun h => absurd h (by decide)), (fun h => absurd h (by decide)), (fun h => absurd h (by decide)), (fun h => absurd h (by decide)), (fun h => absurd h (by decide)), by decide⟩
set_option maxRecDepth 100000 in
theorem pf_X6_19 : a_pf aYY aBB aMX aRR RX6 (1, 12, 6, 0, 3) := ⟨_, rfl, by decide, by decide +kernel, tW1 148 rfl rfl⟩
set_option maxRecDepth 100000 in
theorem pf_X6_20 : a_pf aYY aBB aMX aRR RX6 (8, 65, 90, 108, 0) := ⟨fun _ => ⟨ca_Script_clear, tW3 101 rfl rfl, tW3 102 rfl rfl, by decide, by decide +kernel, _, rfl, tW3 103 rfl rfl⟩, (fun h => absurd h (by decide)), (fun h => absurd h (by decide)), (fun h => absurd h (by decide)), by decide⟩
set_option maxRecDepth 100000 in
theorem pf_X6_21 : a_pf aYY aBB aMX aRR RX6 (8, 68, 78, 106, 0) := ⟨fun _ => ⟨ca_Reader_advance, tW3 105 rfl rfl, tW3 107 rfl rfl, by decide, by decide +kernel, _, rfl, sW 7 rfl rfl⟩, (fun h => absurd h (by decide)), (fun h => absurd h (by decide)), (fun h => absurd h (by decide)), by decide⟩
set_option maxRecDepth 100000 in
theorem pf_X6_22 : a_pf aYY aBB aMX aRR RX6 (8, 71, 67, 106, 1) := ⟨fun _ => ⟨ca_Reader_readClause, tW3 163 rfl rfl, tW3 165 rfl rfl, by decide, by decide +kernel, _, rfl, sW 9 rfl rfl⟩, (fun h => absurd h (by decide)), (fun h => absurd h (by decide)), (fun h => absurd h (by decide)), by decide⟩
set_option maxRecDepth 100000 in
theorem pf_X6_23 : a_pf aYY aBB aMX aRR RX6 (2, 75, 8, 0, 0) := ⟨_, rfl, by decide, by decide +kernel, tW1 53 rfl rfl, rfl⟩
set_option maxRecDepth 100000 in
theorem pf_X6_24 : a_pf aYY aBB aMX aRR RX6 (1, 35, 6, 6, 0) := ⟨_, rfl, by decide, by decide +kernel, tW1 156 rfl rfl⟩
set_option maxRecDepth 100000 in
theorem pf_X6_25 : a_pf aYY aBB aMX aRR RX6 (8, 78, 76, 206, 1) := ⟨fun _ => ⟨ca_Reader_take, tW3 185 rfl rfl, tW3 187 rfl rfl, by decide, by decide +kernel, _, rfl, sW 13 rfl rfl⟩, (fun h => absurd h (by decide)), (fun h => absurd h (by decide)), (fun h => absurd h (by decide)), by decide⟩
set_option maxRecDepth 100000 in
theorem pf_X6_26 : a_pf aYY aBB aMX aRR RX6 (8, 82, 75, 106, 1) := ⟨fun _ => ⟨ca_Reader_fail, tW3 171 rfl rfl, tW3 173 rfl rfl, by decide, by decide +kernel, _, rfl, sW 11 rfl rfl⟩, (fun h => absurd h (by decide)), (fun h => absurd h (by decide)), (fun h => absurd h (by decide)), by decide⟩
set_option maxRecDepth 100000 in
theorem pf_X6_27 : a_pf aYY aBB aMX aRR RX6 (1, 29, 6, 4, 0) := ⟨_, rfl, by decide, by decide +kernel, tW1 154 rfl rfl⟩
set_option maxRecDepth 100000 in
theorem pf_X6_28 : a_pf aYY aBB aMX aRR RX6 (1, 26, 6, 3, 3) := ⟨_, rfl, by decide, by decide +kernel, tW1 153 rfl rfl⟩
set_option maxRecDepth 100000 in
theorem pf_X6_29 : a_pf aYY aBB aMX aRR RX6 (8, 85, 85, 607, 0) := ⟨fun _ => ⟨ca_Scene_put, tW4 6 rfl rfl, tW3 17 rfl rfl, by decide, by decide +kernel, _, rfl, tW3 18 rfl rfl⟩, (fun h => absurd h (by decide)), (fun h => absurd h (by decide)), (fun h => absurd h (by decide)), by decide⟩
set_option maxRecDepth 100000 in
theorem pf_X6_30 : a_pf aYY aBB aMX aRR RX6 (8, 91, 68, 106, 1) := ⟨fun _ => ⟨ca_Reader_readMove, tW3 167 rfl rfl, tW3 169 rfl rfl, by decide, by decide +kernel, _, rfl, sW 10 rfl rfl⟩, (fun h => absurd h (by decide)), (fun h => absurd h (by decide)), (fun h => absurd h (by decide)), by decide⟩
set_option maxRecDepth 100000 in
theorem pf_X6_31 : a_pf aYY aBB aMX aRR RX6 (8, 94, 93, 208, 0) := ⟨fun _ => ⟨ca_Script_startLaw, tW3 190 rfl rfl, tW3 191 rfl rfl, by decide, by decide +kernel, _, rfl, tW3 192 rfl rfl⟩, (fun h => absurd h (by decide)), (fun h => absurd h (by decide)), (fun h => absurd h (by decide)), by decide⟩
set_option maxRecDepth 100000 in
theorem pf_X6_32 : a_pf aYY aBB aMX aRR RX6 (8, 98, 69, 306, 1) := ⟨fun _ => ⟨ca_Reader_readLevel, tW3 194 rfl rfl, tW3 196 rfl rfl, by decide, by decide +kernel, _, rfl, sW 14 rfl rfl⟩, (fun h => absurd h (by decide)), (fun h => absurd h (by decide)), (fun h => absurd h (by decide)), by decide⟩
set_option maxRecDepth 100000 in
theorem pf_X6_33 : a_pf aYY aBB aMX aRR RX6 (8, 102, 94, 108, 0) := ⟨fun _ => ⟨ca_Script_startTest, tW3 226 rfl rfl, tW3 227 rfl rfl, by decide, by decide +kernel, _, rfl, tW3 228 rfl rfl⟩, (fun h => absurd h (by decide)), (fun h => absurd h (by decide)), (fun h => absurd h (by decide)), by decide⟩
set_option maxRecDepth 100000 in
theorem pf_X6_34 : a_pf aYY aBB aMX aRR RX6 (8, 105, 95, 108, 0) := ⟨fun _ => ⟨ca_Script_endLaw, tW3 230 rfl rfl, tW3 231 rfl rfl, by decide, by decide +kernel, _, rfl, tW3 232 rfl rfl⟩, (fun h => absurd h (by decide)), (fun h => absurd h (by decide)), (fun h => absurd h (by decide)), by decide⟩
set_option maxRecDepth 100000 in
theorem pf_X6_35 : a_pf aYY aBB aMX aRR RX6 (8, 108, 77, 406, 1) := ⟨fun _ => ⟨ca_Reader_takeNumber, tW3 175 rfl rfl, tW3 177 rfl rfl, by decide, by decide +kernel, _, rfl, sW 12 rfl rfl⟩, (fun h => absurd h (by decide)), (fun h => absurd h (by decide)), (fun h => absurd h (by decide)), by decide⟩
set_option maxRecDepth 100000 in
theorem pf_X6_36 : a_pf aYY aBB aMX aRR RX6 (10, 112, 252, 400, 0) := ⟨fun _ => ⟨ca_J_fillIr, Or.inl (tW3 179 rfl rfl), tW3 180 rfl rfl, by decide +kernel⟩, (fun h => absurd h (by decide)), (fun h => absurd h (by decide)), (fun h => absurd h (by decide)), (fun h => absurd h (by decide)), (fun h => absurd h (by decide)), (fun h => absurd h (by decide)), by decide⟩
set_option maxRecDepth 100000 in
theorem pf_X6_37 : a_pf aYY aBB aMX aRR RX6 (3, 118, 3, 0, 0) := ⟨_, Or.inr (Or.inl ⟨rfl, rfl⟩), Or.inr ⟨"ClothPlay", tW3 189 rfl rfl⟩⟩
set_option maxRecDepth 100000 in
theorem pf_X6_38 : a_pf aYY aBB aMX aRR RX6 (8, 121, 71, 206, 1) := ⟨fun _ => ⟨ca_Reader_readPlain, tW3 198 rfl rfl, tW3 200 rfl rfl, by decide, by decide +kernel, _, rfl, sW 15 rfl rfl⟩, (fun h => absurd h (by decide)), (fun h => absurd h (by decide)), (fun h => absurd h (by decide)), by decide⟩
set_option maxRecDepth 100000 in
theorem pf_X6_39 : a_pf aYY aBB aMX aRR RX6 (8, 124, 74, 206, 1) := ⟨fun _ => ⟨ca_Reader_readPart, tW3 218 rfl rfl, tW3 220 rfl rfl, by decide, by decide +kernel, _, rfl, sW 19 rfl rfl⟩, (fun h => absurd h (by decide)), (fun h => absurd h (by decide)), (fun h => absurd h (by decide)), by decide⟩
set_option maxRecDepth 100000 in
theorem pf_X6_40 : a_pf aYY aBB aMX aRR RX6 (8, 127, 70, 206, 1) := ⟨fun _ => ⟨ca_Reader_operationAt, tW3 210 rfl rfl, tW3 212 rfl rfl, by decide, by decide +kernel, _, rfl, sW 18 rfl rfl⟩, (fun h => absurd h (by decide)), (fun h => absurd h (by decide)), (fun h => absurd h (by decide)), by decide⟩
set_option maxRecDepth 100000 in
theorem pf_X6_41 : a_pf aYY aBB aMX aRR RX6 (1, 131, 8, 2, 0) := ⟨_, rfl, by decide, by decide +kernel, tW1 58 rfl rfl⟩
set_option maxRecDepth 100000 in
theorem pf_X6_42 : a_pf aYY aBB aMX aRR RX6 (8, 134, 91, 308, 0) := ⟨fun _ => ⟨ca_Script_add, tW3 214 rfl rfl, tW3 215 rfl rfl, by decide, by decide +kernel, _, rfl, tW3 216 rfl rfl⟩, (fun h => absurd h (by decide)), (fun h => absurd h (by decide)), (fun h => absurd h (by decide)), by decide⟩
set_option maxRecDepth 100000 in
theorem pf_X6_43 : a_pf aYY aBB aMX aRR RX6 (8, 138, 92, 208, 0) := ⟨fun _ => ⟨ca_Script_jumpToHere, tW3 222 rfl rfl, tW3 223 rfl rfl, by decide, by decide +kernel, _, rfl, tW3 224 rfl rfl⟩, (fun h => absurd h (by decide)), (fun h => absurd h (by decide)), (fun h => absurd h (by decide)), by decide⟩
set_option maxRecDepth 100000 in
theorem pf_X6_44 : a_pf aYY aBB aMX aRR RX6 (8, 141, 73, 406, 1) := ⟨fun _ => ⟨ca_Reader_readWithin, tW3 202 rfl rfl, tW3 204 rfl rfl, by decide, by decide +kernel, _, rfl, sW 16 rfl rfl⟩, (fun h => absurd h (by decide)), (fun h => absurd h (by decide)), (fun h => absurd h (by decide)), by decide⟩
set_option maxRecDepth 100000 in
theorem pf_X6_45 : a_pf aYY aBB aMX aRR RX6 (8, 144, 72, 206, 1) := ⟨fun _ => ⟨ca_Reader_readComparison, tW3 206 rfl rfl, tW3 208 rfl rfl, by decide, by decide +kernel, _, rfl, sW 17 rfl rfl⟩, (fun h => absurd h (by decide)), (fun h => absurd h (by decide)), (fun h => absurd h (by decide)), by decide⟩
set_option maxRecDepth 100000 in
theorem pf_X6_46 : a_pf aYY aBB aMX aRR RX6 (1, 44, 6, 9, 0) := ⟨_, rfl, by decide, by decide +kernel, tW1 159 rfl rfl⟩
set_option maxRecDepth 100000 in
theorem pf_X6_47 : a_pf aYY aBB aMX aRR RX6 (1, 47, 6, 10, 0) := ⟨_, rfl, by decide, by decide +kernel, tW1 160 rfl rfl⟩
set_option maxRecDepth 100000 in
theorem pf_X6_48 : a_pf aYY aBB aMX aRR RX6 (1, 38, 6, 7, 0) := ⟨_, rfl, by decide, by decide +kernel, tW1 157 rfl rfl⟩
set_option maxRecDepth 100000 in
theorem pf_X6_49 : a_pf aYY aBB aMX aRR RX6 (1, 41, 6, 8, 0) := ⟨_, rfl, by decide, by decide +kernel, tW1 158 rfl rfl⟩
set_option maxRecDepth 100000 in
theorem pf_X6_50 : a_pf aYY aBB aMX aRR RX6 (8, 148, 79, 306, 1) := ⟨fun _ => ⟨ca_Reader_wordBetween, tW3 110 rfl rfl, tW3 112 rfl rfl, by decide, by decide +kernel, _, rfl, sW 8 rfl rfl⟩, (fun h => absurd h (by decide)), (fun h => absurd h (by decide)), (fun h => absurd h (by decide)), by decide⟩
set_option maxRecDepth 100000 in
theorem pf_X6_51 : a_pf aYY aBB aMX aRR RX6 (12, 151, 0, 0, 1) := ⟨rfl, rfl⟩
set_option maxRecDepth 100000 in
theorem pf_X6_52 : a_pf aYY aBB aMX aRR RX6 (8, 153, 0, 0, 13) := ⟨(fun h => absurd h (by decide)), (fun h => absurd h (by decide)), fun _ => ⟨rfl, tW3 115 rfl rfl⟩, (fun h => absurd h (by decide)), by decide⟩
set_option maxRecDepth 100000 in
theorem pf_X6_53 : a_pf aYY aBB aMX aRR RX6 (8, 158, 0, 0, 14) := ⟨(fun h => absurd h (by decide)), (fun h => absurd h (by decide)), (fun h => absurd h (by decide)), fun _ => ⟨rfl, tW3 125 rfl rfl⟩, by decide⟩
set_option maxRecDepth 100000 in
theorem pa_X6 : ∀ e ∈ po_X6, a_pf aYY aBB aMX aRR RX6 e := List.forall_mem_cons.mpr ⟨pf_X6_0, List.forall_mem_cons.mpr ⟨pf_X6_1, List.forall_mem_cons.mpr ⟨pf_X6_2, List.forall_mem_cons.mpr ⟨pf_X6_3, List.forall_mem_cons.mpr ⟨pf_X6_4, List.forall_mem_cons.mpr ⟨pf_X6_5, List.forall_mem_cons.mpr ⟨pf_X6_6, List.forall_mem_cons.mpr ⟨pf_X6_7, List.forall_mem_cons.mpr ⟨pf_X6_8, List.forall_mem_cons.mpr ⟨pf_X6_9, List.forall_mem_cons.mpr ⟨pf_X6_10, List.forall_mem_cons.mpr ⟨pf_X6_11, List.forall_mem_cons.mpr ⟨pf_X6_12, List.forall_mem_cons.mpr ⟨pf_X6_13, List.forall_mem_cons.mpr ⟨pf_X6_14, List.forall_mem_cons.mpr ⟨pf_X6_15, List.forall_mem_cons.mpr ⟨pf_X6_16, List.forall_mem_cons.mpr ⟨pf_X6_17, List.forall_mem_cons.mpr ⟨pf_X6_18, List.forall_mem_cons.mpr ⟨pf_X6_19, List.forall_mem_cons.mpr ⟨pf_X6_20, List.forall_mem_cons.mpr ⟨pf_X6_21, List.forall_mem_cons.mpr ⟨pf_X6_22, List.forall_mem_cons.mpr ⟨pf_X6_23, List.forall_mem_cons.mpr ⟨pf_X6_24, List.forall_mem_cons.mpr ⟨pf_X6_25, List.forall_mem_cons.mpr ⟨pf_X6_26, List.forall_mem_cons.mpr ⟨pf_X6_27, List.forall_mem_cons.mpr ⟨pf_X6_28, List.forall_mem_cons.mpr ⟨pf_X6_29, List.forall_mem_cons.mpr ⟨pf_X6_30, List.forall_mem_cons.mpr ⟨pf_X6_31, List.forall_mem_cons.mpr ⟨pf_X6_32, List.forall_mem_cons.mpr ⟨pf_X6_33, List.forall_mem_cons.mpr ⟨pf_X6_34, List.forall_mem_cons.mpr ⟨pf_X6_35, List.forall_mem_cons.mpr ⟨pf_X6_36, List.forall_mem_cons.mpr ⟨pf_X6_37, List.forall_mem_cons.mpr ⟨pf_X6_38, List.forall_mem_cons.mpr ⟨pf_X6_39, List.forall_mem_cons.mpr ⟨pf_X6_40, List.forall_mem_cons.mpr ⟨pf_X6_41, List.forall_mem_cons.mpr ⟨pf_X6_42, List.forall_mem_cons.mpr ⟨pf_X6_43, List.forall_mem_cons.mpr ⟨pf_X6_44, List.forall_mem_cons.mpr ⟨pf_X6_45, List.forall_mem_cons.mpr ⟨pf_X6_46, List.forall_mem_cons.mpr ⟨pf_X6_47, List.forall_mem_cons.mpr ⟨pf_X6_48, List.forall_mem_cons.mpr ⟨pf_X6_49, List.forall_mem_cons.mpr ⟨pf_X6_50, List.forall_mem_cons.mpr ⟨pf_X6_51, List.forall_mem_cons.mpr ⟨pf_X6_52, List.forall_mem_cons.mpr ⟨pf_X6_53, (fun _ h => absurd h List.not_mem_nil)⟩⟩⟩⟩⟩⟩⟩⟩⟩⟩⟩⟩⟩⟩⟩⟩⟩⟩⟩⟩⟩⟩⟩⟩⟩⟩⟩⟩⟩⟩⟩⟩⟩⟩⟩⟩⟩⟩⟩⟩⟩⟩⟩⟩⟩⟩⟩⟩⟩⟩⟩⟩⟩⟩
def kI_X6 : List (Nat × Int32) := [(147, 100000)]
set_option maxRecDepth 100000 in
theorem ka_X6 : ∀ e ∈ kI_X6, Jvm.Cond.constant RX6 e.1 e.2 ∈ aW := List.forall_mem_cons.mpr ⟨tW3 109 rfl rfl, (fun _ h => absurd h List.not_mem_nil)⟩
def kL_X6 : List (Nat × Int64) := []
set_option maxRecDepth 100000 in
theorem kb_X6 : ∀ e ∈ kL_X6, Jvm.Cond.constantLong RX6 e.1 e.2 ∈ aW := (fun _ h => absurd h List.not_mem_nil)
def po_X7 : List (Nat × Nat × Nat × Nat × Nat) := [(9, 3, 0, 0, 10), (2, 9, 7, 0, 0), (11, 15, 7, 1, 3), (11, 19, 7, 2, 3), (3, 22, 4, 0, 0), (8, 25, 0, 0, 12), (7, 26, 12, 0, 0), (11, 30, 7, 3, 3), (11, 33, 7, 4, 3), (11, 36, 7, 5, 3), (11, 39, 7, 6, 3), (11, 42, 7, 7, 3), (4, 45, 8, 8, 0), (9, 47, 89, 108, 0), (11, 48, 7, 8, 3), (1, 9, 7, 0, 0), (1, 39, 7, 6, 3), (8, 52, 82, 307, 1), (1, 30, 7, 3, 3), (10, 56, 0, 0, 15), (10, 62, 134, 100, 1), (1, 33, 7, 4, 3), (1, 36, 7, 5, 3), (1, 42, 7, 7, 3), (10, 66, 245, 100, 1), (1, 15, 7, 1, 3), (10, 72, 0, 0, 11), (1, 19, 7, 2, 3), (1, 48, 7, 8, 3), (8, 78, 96, 208, 0)]
set_option maxRecDepth 100000 in
theorem pf_X7_0 : a_pf aYY aBB aMX aRR RX7 (9, 3, 0, 0, 10) := ⟨(fun h => absurd h (by decide)), fun _ => ⟨rfl, tW1 36 rfl rfl, tW1 29 rfl rfl, tW1 30 rfl rfl⟩, by decide⟩
set_option maxRecDepth 100000 in
theorem pf_X7_1 : a_pf aYY aBB aMX aRR RX7 (2, 9, 7, 0, 0) := ⟨_, rfl, by decide, by decide +kernel, tW1 87 rfl rfl, rfl⟩
set_option maxRecDepth 100000 in
theorem pf_X7_2 : a_pf aYY aBB aMX aRR RX7 (11, 15, 7, 1, 3) := ⟨_, rfl, by decide, by decide +kernel, tW1 89 rfl rfl, rfl, rfl⟩
set_option maxRecDepth 100000 in
theorem pf_X7_3 : a_pf aYY aBB aMX aRR RX7 (11, 19, 7, 2, 3) := ⟨_, rfl, by decide, by decide +kernel, tW1 93 rfl rfl, rfl, rfl⟩
set_option maxRecDepth 100000 in
theorem pf_X7_4 : a_pf aYY aBB aMX aRR RX7 (3, 22, 4, 0, 0) := ⟨_, Or.inr (Or.inr ⟨rfl, rfl⟩), Or.inr ⟨"ClothPlay", tW1 37 rfl rfl⟩⟩
set_option maxRecDepth 100000 in
theorem pf_X7_5 : a_pf aYY aBB aMX aRR RX7 (8, 25, 0, 0, 12) := ⟨(fun h => absurd h (by decide)), fun _ => ⟨rfl, tW1 39 rfl rfl⟩, (fun h => absurd h (by decide)), (fun h => absurd h (by decide)), by decide⟩
set_option maxRecDepth 100000 in
theorem pf_X7_6 : a_pf aYY aBB aMX aRR RX7 (7, 26, 12, 0, 0) := ⟨rfl, tW1 45 rfl rfl⟩
set_option maxRecDepth 100000 in
theorem pf_X7_7 : a_pf aYY aBB aMX aRR RX7 (11, 30, 7, 3, 3) := ⟨_, rfl, by decide, by decide +kernel, tW1 97 rfl rfl, rfl, rfl⟩
set_option maxRecDepth 100000 in
theorem pf_X7_8 : a_pf aYY aBB aMX aRR RX7 (11, 33, 7, 4, 3) := ⟨_, rfl, by decide, by decide +kernel, tW1 103 rfl rfl, rfl, rfl⟩
set_option maxRecDepth 100000 in
theorem pf_X7_9 : a_pf aYY aBB aMX aRR RX7 (11, 36, 7, 5, 3) := ⟨_, rfl, by decide, by decide +kernel, tW1 108 rfl rfl, rfl, rfl⟩
set_option maxRecDepth 100000 in
theorem pf_X7_10 : a_pf aYY aBB aMX aRR RX7 (11, 39, 7, 6, 3) := ⟨_, rfl, by decide, by decide +kernel, tW1 112 rfl rfl, rfl, rfl⟩
set_option maxRecDepth 100000 in
theorem pf_X7_11 : a_pf aYY aBB aMX aRR RX7 (11, 42, 7, 7, 3) := ⟨_, rfl, by decide, by decide +kernel, tW1 114 rfl rfl, rfl, rfl⟩
set_option maxRecDepth 100000 in
theorem pf_X7_12 : a_pf aYY aBB aMX aRR RX7 (4, 45, 8, 8, 0) := ⟨_, rfl, rfl, tW1 46 rfl rfl, tW1 47 rfl rfl, tW1 3 rfl rfl⟩
set_option maxRecDepth 100000 in
theorem pf_X7_13 : a_pf aYY aBB aMX aRR RX7 (9, 47, 89, 108, 0) := ⟨fun _ => ⟨ca_Script_init, rfl, Or.inr ⟨"ClothPlay", tW1 48 rfl rfl⟩, tW1 49 rfl rfl, rfl, by decide, by decide +kernel, by decide⟩, (fun h => absurd h (by decide)), by decide⟩
set_option maxRecDepth 100000 in
theorem pf_X7_14 : a_pf aYY aBB aMX aRR RX7 (11, 48, 7, 8, 3) := ⟨_, rfl, by decide, by decide +kernel, tW1 118 rfl rfl, rfl, rfl⟩
set_option maxRecDepth 100000 in
theorem pf_X7_15 : a_pf aYY aBB aMX aRR RX7 (1, 9, 7, 0, 0) := ⟨_, rfl, by decide, by decide +kernel, tW1 87 rfl rfl⟩
set_option maxRecDepth 100000 in
theorem pf_X7_16 : a_pf aYY aBB aMX aRR RX7 (1, 39, 7, 6, 3) := ⟨_, rfl, by decide, by decide +kernel, tW1 112 rfl rfl⟩
set_option maxRecDepth 100000 in
theorem pf_X7_17 : a_pf aYY aBB aMX aRR RX7 (8, 52, 82, 307, 1) := ⟨fun _ => ⟨ca_Scene_isOn, tW3 37 rfl rfl, tW3 26 rfl rfl, by decide, by decide +kernel, _, rfl, tW3 27 rfl rfl⟩, (fun h => absurd h (by decide)), (fun h => absurd h (by decide)), (fun h => absurd h (by decide)), by decide⟩
set_option maxRecDepth 100000 in
theorem pf_X7_18 : a_pf aYY aBB aMX aRR RX7 (1, 30, 7, 3, 3) := ⟨_, rfl, by decide, by decide +kernel, tW1 97 rfl rfl⟩
set_option maxRecDepth 100000 in
theorem pf_X7_19 : a_pf aYY aBB aMX aRR RX7 (10, 56, 0, 0, 15) := ⟨(fun h => absurd h (by decide)), (fun h => absurd h (by decide)), fun _ => ⟨rfl, tW3 38 rfl rfl⟩, (fun h => absurd h (by decide)), (fun h => absurd h (by decide)), (fun h => absurd h (by decide)), (fun h => absurd h (by decide)), by decide⟩
set_option maxRecDepth 100000 in
theorem pf_X7_20 : a_pf aYY aBB aMX aRR RX7 (10, 62, 134, 100, 1) := ⟨fun _ => ⟨ca_Cp_isBeat, Or.inr ⟨"ClothPlay", tW3 20 rfl rfl⟩, tW3 14 rfl rfl, by decide +kernel⟩, (fun h => absurd h (by decide)), (fun h => absurd h (by decide)), (fun h => absurd h (by decide)), (fun h => absurd h (by decide)), (fun h => absurd h (by decide)), (fun h => absurd h (by decide)), by decide⟩
set_option maxRecDepth 100000 in
theorem pf_X7_21 : a_pf aYY aBB aMX aRR RX7 (1, 33, 7, 4, 3) := ⟨_, rfl, by decide, by decide +kernel, tW1 103 rfl rfl⟩
set_option maxRecDepth 100000 in
theorem pf_X7_22 : a_pf aYY aBB aMX aRR RX7 (1, 36, 7, 5, 3) := ⟨_, rfl, by decide, by decide +kernel, tW1 108 rfl rfl⟩
set_option maxRecDepth 100000 in
theorem pf_X7_23 : a_pf aYY aBB aMX aRR RX7 (1, 42, 7, 7, 3) := ⟨_, rfl, by decide, by decide +kernel, tW1 114 rfl rfl⟩
set_option maxRecDepth 100000 in
theorem pf_X7_24 : a_pf aYY aBB aMX aRR RX7 (10, 66, 245, 100, 1) := ⟨fun _ => ⟨ca_J_bitI, Or.inl (tW3 66 rfl rfl), tW3 67 rfl rfl, by decide +kernel⟩, (fun h => absurd h (by decide)), (fun h => absurd h (by decide)), (fun h => absurd h (by decide)), (fun h => absurd h (by decide)), (fun h => absurd h (by decide)), (fun h => absurd h (by decide)), by decide⟩
set_option maxRecDepth 100000 in
theorem pf_X7_25 : a_pf aYY aBB aMX aRR RX7 (1, 15, 7, 1, 3) := ⟨_, rfl, by decide, by decide +kernel, tW1 89 rfl rfl⟩
set_option maxRecDepth 100000 in
theorem pf_X7_26 : a_pf aYY aBB aMX aRR RX7 (10, 72, 0, 0, 11) := ⟨(fun h => absurd h (by decide)), fun _ => ⟨rfl, tW5 202 rfl rfl⟩, (fun h => absurd h (by decide)), (fun h => absurd h (by decide)), (fun h => absurd h (by decide)), (fun h => absurd h (by decide)), (fun h => absurd h (by decide)), by decide⟩
set_option maxRecDepth 100000 in
theorem pf_X7_27 : a_pf aYY aBB aMX aRR RX7 (1, 19, 7, 2, 3) := ⟨_, rfl, by decide, by decide +kernel, tW1 93 rfl rfl⟩
set_option maxRecDepth 100000 in
theorem pf_X7_28 : a_pf aYY aBB aMX aRR RX7 (1, 48, 7, 8, 3) := ⟨_, rfl, by decide, by decide +kernel, tW1 118 rfl rfl⟩
set_option maxRecDepth 100000 in
theorem pf_X7_29 : a_pf aYY aBB aMX aRR RX7 (8, 78, 96, 208, 0) := ⟨fun _ => ⟨ca_Script_takeFrom, tW5 203 rfl rfl, tW3 235 rfl rfl, by decide, by decide +kernel, _, rfl, tW3 236 rfl rfl⟩, (fun h => absurd h (by decide)), (fun h => absurd h (by decide)), (fun h => absurd h (by decide)), by decide⟩
set_option maxRecDepth 100000 in
theorem pa_X7 : ∀ e ∈ po_X7, a_pf aYY aBB aMX aRR RX7 e := List.forall_mem_cons.mpr ⟨pf_X7_0, List.forall_mem_cons.mpr ⟨pf_X7_1, List.forall_mem_cons.mpr ⟨pf_X7_2, List.forall_mem_cons.mpr ⟨pf_X7_3, List.forall_mem_cons.mpr ⟨pf_X7_4, List.forall_mem_cons.mpr ⟨pf_X7_5, List.forall_mem_cons.mpr ⟨pf_X7_6, List.forall_mem_cons.mpr ⟨pf_X7_7, List.forall_mem_cons.mpr ⟨pf_X7_8, List.forall_mem_cons.mpr ⟨pf_X7_9, List.forall_mem_cons.mpr ⟨pf_X7_10, List.forall_mem_cons.mpr ⟨pf_X7_11, List.forall_mem_cons.mpr ⟨pf_X7_12, List.forall_mem_cons.mpr ⟨pf_X7_13, List.forall_mem_cons.mpr ⟨pf_X7_14, List.forall_mem_cons.mpr ⟨pf_X7_15, List.forall_mem_cons.mpr ⟨pf_X7_16, List.forall_mem_cons.mpr ⟨pf_X7_17, List.forall_mem_cons.mpr ⟨pf_X7_18, List.forall_mem_cons.mpr ⟨pf_X7_19, List.forall_mem_cons.mpr ⟨pf_X7_20, List.forall_mem_cons.mpr ⟨pf_X7_21, List.forall_mem_cons.mpr ⟨pf_X7_22, List.forall_mem_cons.mpr ⟨pf_X7_23, List.forall_mem_cons.mpr ⟨pf_X7_24, List.forall_mem_cons.mpr ⟨pf_X7_25, List.forall_mem_cons.mpr ⟨pf_X7_26, List.forall_mem_cons.mpr ⟨pf_X7_27, List.forall_mem_cons.mpr ⟨pf_X7_28, List.forall_mem_cons.mpr ⟨pf_X7_29, (fun _ h => absurd h List.not_mem_nil)⟩⟩⟩⟩⟩⟩⟩⟩⟩⟩⟩⟩⟩⟩⟩⟩⟩⟩⟩⟩⟩⟩⟩⟩⟩⟩⟩⟩⟩⟩
def kI_X7 : List (Nat × Int32) := []
set_option maxRecDepth 100000 in
theorem ka_X7 : ∀ e ∈ kI_X7, Jvm.Cond.constant RX7 e.1 e.2 ∈ aW := (fun _ h => absurd h List.not_mem_nil)
def kL_X7 : List (Nat × Int64) := []
set_option maxRecDepth 100000 in
theorem kb_X7 : ∀ e ∈ kL_X7, Jvm.Cond.constantLong RX7 e.1 e.2 ∈ aW := (fun _ h => absurd h List.not_mem_nil)
def po_X8 : List (Nat × Nat × Nat × Nat × Nat) := [(9, 3, 0, 0, 10), (2, 9, 8, 0, 0), (2, 15, 8, 1, 0), (2, 18, 8, 2, 0), (11, 21, 8, 3, 3), (11, 25, 8, 4, 3), (11, 28, 8, 5, 3), (11, 31, 8, 6, 3), (11, 34, 8, 7, 3), (1, 18, 8, 2, 0), (1, 34, 8, 7, 3), (1, 15, 8, 1, 0), (1, 21, 8, 3, 3), (1, 25, 8, 4, 3), (1, 28, 8, 5, 3), (1, 31, 8, 6, 3), (1, 9, 8, 0, 0), (10, 37, 0, 0, 11)]
set_option maxRecDepth 100000 in
theorem pf_X8_0 : a_pf aYY aBB aMX aRR RX8 (9, 3, 0, 0, 10) := ⟨(fun h => absurd h (by decide)), fun _ => ⟨rfl, tW1 51 rfl rfl, tW1 29 rfl rfl, tW1 30 rfl rfl⟩, by decide⟩
set_option maxRecDepth 100000 in
theorem pf_X8_1 : a_pf aYY aBB aMX aRR RX8 (2, 9, 8, 0, 0) := ⟨_, rfl, by decide, by decide +kernel, tW1 52 rfl rfl, rfl⟩
set_option maxRecDepth 100000 in
theorem pf_X8_2 : a_pf aYY aBB aMX aRR RX8 (2, 15, 8, 1, 0) := ⟨_, rfl, by decide, by decide +kernel, tW1 55 rfl rfl, rfl⟩
set_option maxRecDepth 100000 in
theorem pf_X8_3 : a_pf aYY aBB aMX aRR RX8 (2, 18, 8, 2, 0) := ⟨_, rfl, by decide, by decide +kernel, tW1 57 rfl rfl, rfl⟩
set_option maxRecDepth 100000 in
theorem pf_X8_4 : a_pf aYY aBB aMX aRR RX8 (11, 21, 8, 3, 3) := ⟨_, rfl, by decide, by decide +kernel, tW1 59 rfl rfl, rfl, rfl⟩
set_option maxRecDepth 100000 in
theorem pf_X8_5 : a_pf aYY aBB aMX aRR RX8 (11, 25, 8, 4, 3) := ⟨_, rfl, by decide, by decide +kernel, tW1 61 rfl rfl, rfl, rfl⟩
set_option maxRecDepth 100000 in
theorem pf_X8_6 : a_pf aYY aBB aMX aRR RX8 (11, 28, 8, 5, 3) := ⟨_, rfl, by decide, by decide +kernel, tW1 63 rfl rfl, rfl, rfl⟩
set_option maxRecDepth 100000 in
theorem pf_X8_7 : a_pf aYY aBB aMX aRR RX8 (11, 31, 8, 6, 3) := ⟨_, rfl, by decide, by decide +kernel, tW1 65 rfl rfl, rfl, rfl⟩
set_option maxRecDepth 100000 in
theorem pf_X8_8 : a_pf aYY aBB aMX aRR RX8 (11, 34, 8, 7, 3) := ⟨_, rfl, by decide, by decide +kernel, tW1 67 rfl rfl, rfl, rfl⟩
set_option maxRecDepth 100000 in
theorem pf_X8_9 : a_pf aYY aBB aMX aRR RX8 (1, 18, 8, 2, 0) := ⟨_, rfl, by decide, by decide +kernel, tW1 57 rfl rfl⟩
set_option maxRecDepth 100000 in
theorem pf_X8_10 : a_pf aYY aBB aMX aRR RX8 (1, 34, 8, 7, 3) := ⟨_, rfl, by decide, by decide +kernel, tW1 67 rfl rfl⟩
set_option maxRecDepth 100000 in
theorem pf_X8_11 : a_pf aYY aBB aMX aRR RX8 (1, 15, 8, 1, 0) := ⟨_, rfl, by decide, by decide +kernel, tW1 55 rfl rfl⟩
set_option maxRecDepth 100000 in
theorem pf_X8_12 : a_pf aYY aBB aMX aRR RX8 (1, 21, 8, 3, 3) := ⟨_, rfl, by decide, by decide +kernel, tW1 59 rfl rfl⟩
set_option maxRecDepth 100000 in
theorem pf_X8_13 : a_pf aYY aBB aMX aRR RX8 (1, 25, 8, 4, 3) := ⟨_, rfl, by decide, by decide +kernel, tW1 61 rfl rfl⟩
set_option maxRecDepth 100000 in
theorem pf_X8_14 : a_pf aYY aBB aMX aRR RX8 (1, 28, 8, 5, 3) := ⟨_, rfl, by decide, by decide +kernel, tW1 63 rfl rfl⟩
set_option maxRecDepth 100000 in
theorem pf_X8_15 : a_pf aYY aBB aMX aRR RX8 (1, 31, 8, 6, 3) := ⟨_, rfl, by decide, by decide +kernel, tW1 65 rfl rfl⟩
set_option maxRecDepth 100000 in
theorem pf_X8_16 : a_pf aYY aBB aMX aRR RX8 (1, 9, 8, 0, 0) := ⟨_, rfl, by decide, by decide +kernel, tW1 52 rfl rfl⟩
set_option maxRecDepth 100000 in
theorem pf_X8_17 : a_pf aYY aBB aMX aRR RX8 (10, 37, 0, 0, 11) := ⟨(fun h => absurd h (by decide)), fun _ => ⟨rfl, tW3 238 rfl rfl⟩, (fun h => absurd h (by decide)), (fun h => absurd h (by decide)), (fun h => absurd h (by decide)), (fun h => absurd h (by decide)), (fun h => absurd h (by decide)), by decide⟩
set_option maxRecDepth 100000 in
theorem pa_X8 : ∀ e ∈ po_X8, a_pf aYY aBB aMX aRR RX8 e := List.forall_mem_cons.mpr ⟨pf_X8_0, List.forall_mem_cons.mpr ⟨pf_X8_1, List.forall_mem_cons.mpr ⟨pf_X8_2, List.forall_mem_cons.mpr ⟨pf_X8_3, List.forall_mem_cons.mpr ⟨pf_X8_4, List.forall_mem_cons.mpr ⟨pf_X8_5, List.forall_mem_cons.mpr ⟨pf_X8_6, List.forall_mem_cons.mpr ⟨pf_X8_7, List.forall_mem_cons.mpr ⟨pf_X8_8, List.forall_mem_cons.mpr ⟨pf_X8_9, List.forall_mem_cons.mpr ⟨pf_X8_10, List.forall_mem_cons.mpr ⟨pf_X8_11, List.forall_mem_cons.mpr ⟨pf_X8_12, List.forall_mem_cons.mpr ⟨pf_X8_13, List.forall_mem_cons.mpr ⟨pf_X8_14, List.forall_mem_cons.mpr ⟨pf_X8_15, List.forall_mem_cons.mpr ⟨pf_X8_16, List.forall_mem_cons.mpr ⟨pf_X8_17, (fun _ h => absurd h List.not_mem_nil)⟩⟩⟩⟩⟩⟩⟩⟩⟩⟩⟩⟩⟩⟩⟩⟩⟩⟩
def kI_X8 : List (Nat × Int32) := []
set_option maxRecDepth 100000 in
theorem ka_X8 : ∀ e ∈ kI_X8, Jvm.Cond.constant RX8 e.1 e.2 ∈ aW := (fun _ h => absurd h List.not_mem_nil)
def kL_X8 : List (Nat × Int64) := []
set_option maxRecDepth 100000 in
theorem kb_X8 : ∀ e ∈ kL_X8, Jvm.Cond.constantLong RX8 e.1 e.2 ∈ aW := (fun _ h => absurd h List.not_mem_nil)
def po_X9 : List (Nat × Nat × Nat × Nat × Nat) := [(9, 3, 0, 0, 10), (2, 9, 9, 0, 0), (2, 15, 9, 1, 2), (2, 19, 9, 2, 0), (11, 22, 9, 3, 3), (11, 26, 9, 4, 3), (6, 29, 17, 12, 0), (11, 31, 9, 5, 3), (11, 34, 9, 6, 3), (11, 37, 9, 7, 3), (1, 40, 7, 7, 3), (1, 9, 9, 0, 0), (1, 22, 9, 3, 3), (1, 26, 9, 4, 3), (1, 47, 7, 3, 3), (10, 50, 0, 0, 15), (1, 19, 9, 2, 0), (8, 56, 99, 309, 0), (1, 31, 9, 5, 3), (10, 60, 21, 300, 1), (1, 37, 9, 7, 3), (10, 66, 251, 200, 0), (1, 34, 9, 6, 3)]
set_option maxRecDepth 100000 in
theorem pf_X9_0 : a_pf aYY aBB aMX aRR RX9 (9, 3, 0, 0, 10) := ⟨(fun h => absurd h (by decide)), fun _ => ⟨rfl, tW2 74 rfl rfl, tW1 29 rfl rfl, tW1 30 rfl rfl⟩, by decide⟩
set_option maxRecDepth 100000 in
theorem pf_X9_1 : a_pf aYY aBB aMX aRR RX9 (2, 9, 9, 0, 0) := ⟨_, rfl, by decide, by decide +kernel, tW2 76 rfl rfl, rfl⟩
set_option maxRecDepth 100000 in
theorem pf_X9_2 : a_pf aYY aBB aMX aRR RX9 (2, 15, 9, 1, 2) := ⟨_, rfl, by decide, by decide +kernel, tW2 79 rfl rfl, rfl⟩
set_option maxRecDepth 100000 in
theorem pf_X9_3 : a_pf aYY aBB aMX aRR RX9 (2, 19, 9, 2, 0) := ⟨_, rfl, by decide, by decide +kernel, tW2 81 rfl rfl, rfl⟩
set_option maxRecDepth 100000 in
theorem pf_X9_4 : a_pf aYY aBB aMX aRR RX9 (11, 22, 9, 3, 3) := ⟨_, rfl, by decide, by decide +kernel, tW2 83 rfl rfl, rfl, rfl⟩
set_option maxRecDepth 100000 in
theorem pf_X9_5 : a_pf aYY aBB aMX aRR RX9 (11, 26, 9, 4, 3) := ⟨_, rfl, by decide, by decide +kernel, tW2 85 rfl rfl, rfl, rfl⟩
set_option maxRecDepth 100000 in
theorem pf_X9_6 : a_pf aYY aBB aMX aRR RX9 (6, 29, 17, 12, 0) := ⟨_, Or.inl ⟨rfl, rfl, rfl⟩, tW2 75 rfl rfl, tW1 221 rfl rfl, tW1 86 rfl rfl⟩
set_option maxRecDepth 100000 in
theorem pf_X9_7 : a_pf aYY aBB aMX aRR RX9 (11, 31, 9, 5, 3) := ⟨_, rfl, by decide, by decide +kernel, tW2 87 rfl rfl, rfl, rfl⟩
set_option maxRecDepth 100000 in
theorem pf_X9_8 : a_pf aYY aBB aMX aRR RX9 (11, 34, 9, 6, 3) := ⟨_, rfl, by decide, by decide +kernel, tW2 89 rfl rfl, rfl, rfl⟩
set_option maxRecDepth 100000 in
theorem pf_X9_9 : a_pf aYY aBB aMX aRR RX9 (11, 37, 9, 7, 3) := ⟨_, rfl, by decide, by decide +kernel, tW2 91 rfl rfl, rfl, rfl⟩
set_option maxRecDepth 100000 in
theorem pf_X9_10 : a_pf aYY aBB aMX aRR RX9 (1, 40, 7, 7, 3) := ⟨_, rfl, by decide, by decide +kernel, tW1 115 rfl rfl⟩
set_option maxRecDepth 100000 in
theorem pf_X9_11 : a_pf aYY aBB aMX aRR RX9 (1, 9, 9, 0, 0) := ⟨_, rfl, by decide, by decide +kernel, tW2 76 rfl rfl⟩
set_option maxRecDepth 100000 in
theorem pf_X9_12 : a_pf aYY aBB aMX aRR RX9 (1, 22, 9, 3, 3) := ⟨_, rfl, by decide, by decide +kernel, tW2 83 rfl rfl⟩
set_option maxRecDepth 100000 in
theorem pf_X9_13 : a_pf aYY aBB aMX aRR RX9 (1, 26, 9, 4, 3) := ⟨_, rfl, by decide, by decide +kernel, tW2 85 rfl rfl⟩
set_option maxRecDepth 100000 in
theorem pf_X9_14 : a_pf aYY aBB aMX aRR RX9 (1, 47, 7, 3, 3) := ⟨_, rfl, by decide, by decide +kernel, tW1 99 rfl rfl⟩
set_option maxRecDepth 100000 in
theorem pf_X9_15 : a_pf aYY aBB aMX aRR RX9 (10, 50, 0, 0, 15) := ⟨(fun h => absurd h (by decide)), (fun h => absurd h (by decide)), fun _ => ⟨rfl, tW5 30 rfl rfl⟩, (fun h => absurd h (by decide)), (fun h => absurd h (by decide)), (fun h => absurd h (by decide)), (fun h => absurd h (by decide)), by decide⟩
set_option maxRecDepth 100000 in
theorem pf_X9_16 : a_pf aYY aBB aMX aRR RX9 (1, 19, 9, 2, 0) := ⟨_, rfl, by decide, by decide +kernel, tW2 81 rfl rfl⟩
set_option maxRecDepth 100000 in
theorem pf_X9_17 : a_pf aYY aBB aMX aRR RX9 (8, 56, 99, 309, 0) := ⟨fun _ => ⟨ca_Target_lookFrom, tW5 31 rfl rfl, tW5 33 rfl rfl, by decide, by decide +kernel, _, rfl, sW 38 rfl rfl⟩, (fun h => absurd h (by decide)), (fun h => absurd h (by decide)), (fun h => absurd h (by decide)), by decide⟩
set_option maxRecDepth 100000 in
theorem pf_X9_18 : a_pf aYY aBB aMX aRR RX9 (1, 31, 9, 5, 3) := ⟨_, rfl, by decide, by decide +kernel, tW2 87 rfl rfl⟩
set_option maxRecDepth 100000 in
theorem pf_X9_19 : a_pf aYY aBB aMX aRR RX9 (10, 60, 21, 300, 1) := ⟨fun _ => ⟨ca_Light_project, Or.inl (tW5 35 rfl rfl), tW4 27 rfl rfl, by decide +kernel⟩, (fun h => absurd h (by decide)), (fun h => absurd h (by decide)), (fun h => absurd h (by decide)), (fun h => absurd h (by decide)), (fun h => absurd h (by decide)), (fun h => absurd h (by decide)), by decide⟩
set_option maxRecDepth 100000 in
theorem pf_X9_20 : a_pf aYY aBB aMX aRR RX9 (1, 37, 9, 7, 3) := ⟨_, rfl, by decide, by decide +kernel, tW2 91 rfl rfl⟩
set_option maxRecDepth 100000 in
theorem pf_X9_21 : a_pf aYY aBB aMX aRR RX9 (10, 66, 251, 200, 0) := ⟨fun _ => ⟨ca_J_fillI, Or.inl (tW5 36 rfl rfl), tW4 0 rfl rfl, by decide +kernel⟩, (fun h => absurd h (by decide)), (fun h => absurd h (by decide)), (fun h => absurd h (by decide)), (fun h => absurd h (by decide)), (fun h => absurd h (by decide)), (fun h => absurd h (by decide)), by decide⟩
set_option maxRecDepth 100000 in
theorem pf_X9_22 : a_pf aYY aBB aMX aRR RX9 (1, 34, 9, 6, 3) := ⟨_, rfl, by decide, by decide +kernel, tW2 89 rfl rfl⟩
set_option maxRecDepth 100000 in
theorem pa_X9 : ∀ e ∈ po_X9, a_pf aYY aBB aMX aRR RX9 e := List.forall_mem_cons.mpr ⟨pf_X9_0, List.forall_mem_cons.mpr ⟨pf_X9_1, List.forall_mem_cons.mpr ⟨pf_X9_2, List.forall_mem_cons.mpr ⟨pf_X9_3, List.forall_mem_cons.mpr ⟨pf_X9_4, List.forall_mem_cons.mpr ⟨pf_X9_5, List.forall_mem_cons.mpr ⟨pf_X9_6, List.forall_mem_cons.mpr ⟨pf_X9_7, List.forall_mem_cons.mpr ⟨pf_X9_8, List.forall_mem_cons.mpr ⟨pf_X9_9, List.forall_mem_cons.mpr ⟨pf_X9_10, List.forall_mem_cons.mpr ⟨pf_X9_11, List.forall_mem_cons.mpr ⟨pf_X9_12, List.forall_mem_cons.mpr ⟨pf_X9_13, List.forall_mem_cons.mpr ⟨pf_X9_14, List.forall_mem_cons.mpr ⟨pf_X9_15, List.forall_mem_cons.mpr ⟨pf_X9_16, List.forall_mem_cons.mpr ⟨pf_X9_17, List.forall_mem_cons.mpr ⟨pf_X9_18, List.forall_mem_cons.mpr ⟨pf_X9_19, List.forall_mem_cons.mpr ⟨pf_X9_20, List.forall_mem_cons.mpr ⟨pf_X9_21, List.forall_mem_cons.mpr ⟨pf_X9_22, (fun _ h => absurd h List.not_mem_nil)⟩⟩⟩⟩⟩⟩⟩⟩⟩⟩⟩⟩⟩⟩⟩⟩⟩⟩⟩⟩⟩⟩⟩
def kI_X9 : List (Nat × Int32) := []
set_option maxRecDepth 100000 in
theorem ka_X9 : ∀ e ∈ kI_X9, Jvm.Cond.constant RX9 e.1 e.2 ∈ aW := (fun _ h => absurd h List.not_mem_nil)
def kL_X9 : List (Nat × Int64) := [(45, (-1))]
set_option maxRecDepth 100000 in
theorem kb_X9 : ∀ e ∈ kL_X9, Jvm.Cond.constantLong RX9 e.1 e.2 ∈ aW := List.forall_mem_cons.mpr ⟨tW5 29 rfl rfl, (fun _ h => absurd h List.not_mem_nil)⟩
def po_X10 : List (Nat × Nat × Nat × Nat × Nat) := [(9, 1, 0, 0, 10), (4, 7, 7, 9, 0), (9, 9, 80, 107, 0), (11, 10, 10, 0, 3), (5, 7, 16, 0, 0), (11, 16, 10, 1, 3), (11, 20, 10, 2, 3), (4, 24, 6, 11, 0), (9, 26, 64, 106, 0), (11, 27, 10, 3, 3), (4, 31, 2, 1, 0), (1, 10, 10, 0, 3), (9, 33, 20, 202, 0), (11, 36, 10, 4, 3), (4, 40, 0, 4, 0), (9, 42, 0, 200, 0), (11, 43, 10, 5, 3), (4, 47, 1, 8, 0), (1, 43, 10, 5, 3), (9, 49, 5, 301, 0), (11, 52, 10, 6, 3), (4, 56, 4, 15, 0), (1, 52, 10, 6, 3), (9, 58, 43, 404, 0), (11, 61, 10, 7, 3), (4, 65, 3, 14, 0), (9, 67, 27, 203, 0), (11, 68, 10, 8, 3), (11, 72, 10, 9, 3), (11, 75, 10, 10, 3), (2, 78, 10, 11, 0), (2, 82, 10, 12, 0), (2, 85, 10, 13, 0), (2, 88, 10, 14, 0), (2, 91, 10, 15, 1), (8, 95, 135, 210, 1), (1, 99, 7, 0, 0), (1, 102, 7, 2, 3), (2, 99, 7, 0, 0), (8, 105, 137, 110, 0), (8, 108, 136, 210, 1), (8, 111, 81, 207, 1), (3, 115, 2, 0, 0), (3, 118, 3, 0, 0), (1, 121, 7, 3, 3), (8, 124, 138, 110, 0), (10, 127, 134, 100, 1), (8, 130, 85, 607, 0), (8, 134, 82, 307, 1), (1, 138, 7, 4, 3), (1, 141, 7, 5, 3), (8, 144, 83, 307, 1), (1, 78, 10, 11, 0), (8, 148, 140, 210, 0), (8, 152, 142, 110, 1), (8, 156, 141, 210, 1), (1, 82, 10, 12, 0), (1, 159, 7, 1, 3), (1, 27, 10, 3, 3), (1, 20, 10, 2, 3), (8, 162, 65, 306, 1), (1, 166, 6, 1, 0), (1, 169, 7, 8, 3), (1, 173, 6, 0, 3), (8, 174, 96, 208, 0), (1, 180, 7, 6, 3), (10, 183, 251, 200, 0), (8, 189, 66, 206, 0), (1, 192, 8, 0, 0), (1, 85, 10, 13, 0), (1, 36, 10, 4, 3), (8, 195, 23, 302, 1), (8, 198, 22, 402, 1), (8, 202, 24, 402, 1), (8, 205, 25, 302, 1), (8, 208, 26, 302, 1), (8, 211, 84, 207, 1), (8, 214, 7, 201, 0), (8, 217, 8, 401, 1), (8, 221, 9, 301, 1), (1, 61, 10, 7, 3), (8, 224, 44, 104, 1), (1, 228, 4, 1, 0), (1, 231, 4, 2, 0), (8, 234, 45, 304, 1), (8, 237, 46, 204, 1), (8, 240, 10, 201, 1), (8, 243, 11, 301, 1), (8, 246, 139, 210, 1), (1, 68, 10, 8, 3), (8, 249, 29, 203, 0), (8, 252, 30, 103, 1), (1, 255, 3, 0, 0), (8, 258, 31, 303, 1), (1, 261, 7, 7, 3), (8, 264, 87, 107, 1), (1, 72, 10, 9, 3), (8, 274, 1, 500, 0), (8, 280, 2, 400, 1), (1, 91, 10, 15, 1), (1, 16, 10, 1, 3), (8, 283, 88, 207, 0), (8, 285, 143, 210, 1), (1, 75, 10, 10, 3), (1, 88, 10, 14, 0), (8, 288, 6, 101, 0), (2, 291, 4, 0, 1), (8, 294, 28, 103, 0), (10, 297, 245, 100, 1), (10, 302, 0, 0, 16), (10, 307, 0, 0, 15)]
set_option maxRecDepth 100000 in
theorem pf_X10_0 : a_pf aYY aBB aMX aRR RX10 (9, 1, 0, 0, 10) := ⟨(fun h => absurd h (by decide)), fun _ => ⟨rfl, tW1 28 rfl rfl, tW1 29 rfl rfl, tW1 30 rfl rfl⟩, by decide⟩
set_option maxRecDepth 100000 in
theorem pf_X10_1 : a_pf aYY aBB aMX aRR RX10 (4, 7, 7, 9, 0) := ⟨_, rfl, rfl, tW1 31 rfl rfl, tW1 32 rfl rfl, tW1 2 rfl rfl⟩
set_option maxRecDepth 100000 in
theorem pf_X10_2 : a_pf aYY aBB aMX aRR RX10 (9, 9, 80, 107, 0) := ⟨fun _ => ⟨ca_Scene_init, rfl, Or.inr ⟨"ClothPlay", tW1 33 rfl rfl⟩, tW1 34 rfl rfl, rfl, by decide, by decide +kernel, by decide⟩, (fun h => absurd h (by decide)), by decide⟩
set_option maxRecDepth 100000 in
theorem pf_X10_3 : a_pf aYY aBB aMX aRR RX10 (11, 10, 10, 0, 3) := ⟨_, rfl, by decide, by decide +kernel, tW2 156 rfl rfl, rfl, rfl⟩
set_option maxRecDepth 100000 in
theorem pf_X10_4 : a_pf aYY aBB aMX aRR RX10 (5, 7, 16, 0, 0) := ⟨_, Or.inr ⟨rfl, rfl⟩, tW1 31 rfl rfl, tW1 139 rfl rfl⟩
set_option maxRecDepth 100000 in
theorem pf_X10_5 : a_pf aYY aBB aMX aRR RX10 (11, 16, 10, 1, 3) := ⟨_, rfl, by decide, by decide +kernel, tW2 157 rfl rfl, rfl, rfl⟩
set_option maxRecDepth 100000 in
theorem pf_X10_6 : a_pf aYY aBB aMX aRR RX10 (11, 20, 10, 2, 3) := ⟨_, rfl, by decide, by decide +kernel, tW2 158 rfl rfl, rfl, rfl⟩
set_option maxRecDepth 100000 in
theorem pf_X10_7 : a_pf aYY aBB aMX aRR RX10 (4, 24, 6, 11, 0) := ⟨_, rfl, rfl, tW1 140 rfl rfl, tW1 141 rfl rfl, tW1 4 rfl rfl⟩
set_option maxRecDepth 100000 in
theorem pf_X10_8 : a_pf aYY aBB aMX aRR RX10 (9, 26, 64, 106, 0) := ⟨fun _ => ⟨ca_Reader_init, rfl, Or.inr ⟨"ClothPlay", tW1 142 rfl rfl⟩, tW1 143 rfl rfl, rfl, by decide, by decide +kernel, by decide⟩, (fun h => absurd h (by decide)), by decide⟩
set_option maxRecDepth 100000 in
theorem pf_X10_9 : a_pf aYY aBB aMX aRR RX10 (11, 27, 10, 3, 3) := ⟨_, rfl, by decide, by decide +kernel, tW2 159 rfl rfl, rfl, rfl⟩
set_option maxRecDepth 100000 in
theorem pf_X10_10 : a_pf aYY aBB aMX aRR RX10 (4, 31, 2, 1, 0) := ⟨_, rfl, rfl, tW1 184 rfl rfl, tW1 185 rfl rfl, tW1 5 rfl rfl⟩
set_option maxRecDepth 100000 in
theorem pf_X10_11 : a_pf aYY aBB aMX aRR RX10 (1, 10, 10, 0, 3) := ⟨_, rfl, by decide, by decide +kernel, tW2 156 rfl rfl⟩
set_option maxRecDepth 100000 in
theorem pf_X10_12 : a_pf aYY aBB aMX aRR RX10 (9, 33, 20, 202, 0) := ⟨fun _ => ⟨ca_Light_init, rfl, Or.inl (tW1 186 rfl rfl), tW1 187 rfl rfl, rfl, by decide, by decide +kernel, by decide⟩, (fun h => absurd h (by decide)), by decide⟩
set_option maxRecDepth 100000 in
theorem pf_X10_13 : a_pf aYY aBB aMX aRR RX10 (11, 36, 10, 4, 3) := ⟨_, rfl, by decide, by decide +kernel, tW2 160 rfl rfl, rfl, rfl⟩
set_option maxRecDepth 100000 in
theorem pf_X10_14 : a_pf aYY aBB aMX aRR RX10 (4, 40, 0, 4, 0) := ⟨_, rfl, rfl, tW1 194 rfl rfl, tW1 195 rfl rfl, tW1 6 rfl rfl⟩
set_option maxRecDepth 100000 in
theorem pf_X10_15 : a_pf aYY aBB aMX aRR RX10 (9, 42, 0, 200, 0) := ⟨fun _ => ⟨ca_Asker_init, rfl, Or.inl (tW1 196 rfl rfl), tW1 197 rfl rfl, rfl, by decide, by decide +kernel, by decide⟩, (fun h => absurd h (by decide)), by decide⟩
set_option maxRecDepth 100000 in
theorem pf_X10_16 : a_pf aYY aBB aMX aRR RX10 (11, 43, 10, 5, 3) := ⟨_, rfl, by decide, by decide +kernel, tW2 161 rfl rfl, rfl, rfl⟩
set_option maxRecDepth 100000 in
theorem pf_X10_17 : a_pf aYY aBB aMX aRR RX10 (4, 47, 1, 8, 0) := ⟨_, rfl, rfl, tW1 214 rfl rfl, tW1 215 rfl rfl, tW1 7 rfl rfl⟩
set_option maxRecDepth 100000 in
theorem pf_X10_18 : a_pf aYY aBB aMX aRR RX10 (1, 43, 10, 5, 3) := ⟨_, rfl, by decide, by decide +kernel, tW2 161 rfl rfl⟩
set_option maxRecDepth 100000 in
theorem pf_X10_19 : a_pf aYY aBB aMX aRR RX10 (9, 49, 5, 301, 0) := ⟨fun _ => ⟨ca_Hands_init, rfl, Or.inl (tW1 216 rfl rfl), tW1 217 rfl rfl, rfl, by decide, by decide +kernel, by decide⟩, (fun h => absurd h (by decide)), by decide⟩
set_option maxRecDepth 100000 in
theorem pf_X10_20 : a_pf aYY aBB aMX aRR RX10 (11, 52, 10, 6, 3) := ⟨_, rfl, by decide, by decide +kernel, tW2 162 rfl rfl, rfl, rfl⟩
set_option maxRecDepth 100000 in
theorem pf_X10_21 : a_pf aYY aBB aMX aRR RX10 (4, 56, 4, 15, 0) := ⟨_, rfl, rfl, tW2 8 rfl rfl, tW2 9 rfl rfl, tW1 8 rfl rfl⟩
set_option maxRecDepth 100000 in
theorem pf_X10_22 : a_pf aYY aBB aMX aRR RX10 (1, 52, 10, 6, 3) := ⟨_, rfl, by decide, by decide +kernel, tW2 162 rfl rfl⟩
set_option maxRecDepth 100000 in
theorem pf_X10_23 : a_pf aYY aBB aMX aRR RX10 (9, 58, 43, 404, 0) := ⟨fun _ => ⟨ca_Planner_init, rfl, Or.inl (tW2 10 rfl rfl), tW2 11 rfl rfl, rfl, by decide, by decide +kernel, by decide⟩, (fun h => absurd h (by decide)), by decide⟩
set_option maxRecDepth 100000 in
theorem pf_X10_24 : a_pf aYY aBB aMX aRR RX10 (11, 61, 10, 7, 3) := ⟨_, rfl, by decide, by decide +kernel, tW2 163 rfl rfl, rfl, rfl⟩
set_option maxRecDepth 100000 in
theorem pf_X10_25 : a_pf aYY aBB aMX aRR RX10 (4, 65, 3, 14, 0) := ⟨_, rfl, rfl, tW2 63 rfl rfl, tW2 64 rfl rfl, tW1 9 rfl rfl⟩
set_option maxRecDepth 100000 in
theorem pf_X10_26 : a_pf aYY aBB aMX aRR RX10 (9, 67, 27, 203, 0) := ⟨fun _ => ⟨ca_Maker_init, rfl, Or.inl (tW2 65 rfl rfl), tW2 66 rfl rfl, rfl, by decide, by decide +kernel, by decide⟩, (fun h => absurd h (by decide)), by decide⟩
set_option maxRecDepth 100000 in
theorem pf_X10_27 : a_pf aYY aBB aMX aRR RX10 (11, 68, 10, 8, 3) := ⟨_, rfl, by decide, by decide +kernel, tW2 164 rfl rfl, rfl, rfl⟩
set_option maxRecDepth 100000 in
theorem pf_X10_28 : a_pf aYY aBB aMX aRR RX10 (11, 72, 10, 9, 3) := ⟨_, rfl, by decide, by decide +kernel, tW2 165 rfl rfl, rfl, rfl⟩
set_option maxRecDepth 100000 in
theorem pf_X10_29 : a_pf aYY aBB aMX aRR RX10 (11, 75, 10, 10, 3) := ⟨_, rfl, by decide, by decide +kernel, tW2 166 rfl rfl, rfl, rfl⟩
set_option maxRecDepth 100000 in
theorem pf_X10_30 : a_pf aYY aBB aMX aRR RX10 (2, 78, 10, 11, 0) := ⟨_, rfl, by decide, by decide +kernel, tW2 167 rfl rfl, rfl⟩
set_option maxRecDepth 100000 in
theorem pf_X10_31 : a_pf aYY aBB aMX aRR RX10 (2, 82, 10, 12, 0) := ⟨_, rfl, by decide, by decide +kernel, tW2 168 rfl rfl, rfl⟩
set_option maxRecDepth 100000 in
theorem pf_X10_32 : a_pf aYY aBB aMX aRR RX10 (2, 85, 10, 13, 0) := ⟨_, rfl, by decide, by decide +kernel, tW2 169 rfl rfl, rfl⟩
set_option maxRecDepth 100000 in
theorem pf_X10_33 : a_pf aYY aBB aMX aRR RX10 (2, 88, 10, 14, 0) := ⟨_, rfl, by decide, by decide +kernel, tW2 170 rfl rfl, rfl⟩
set_option maxRecDepth 100000 in
theorem pf_X10_34 : a_pf aYY aBB aMX aRR RX10 (2, 91, 10, 15, 1) := ⟨_, rfl, by decide, by decide +kernel, tW2 171 rfl rfl, rfl⟩
set_option maxRecDepth 100000 in
theorem pf_X10_35 : a_pf aYY aBB aMX aRR RX10 (8, 95, 135, 210, 1) := ⟨fun _ => ⟨ca_Cp_refuse, tW2 209 rfl rfl, tW2 211 rfl rfl, by decide, by decide +kernel, _, rfl, sW 0 rfl rfl⟩, (fun h => absurd h (by decide)), (fun h => absurd h (by decide)), (fun h => absurd h (by decide)), by decide⟩
set_option maxRecDepth 100000 in
theorem pf_X10_36 : a_pf aYY aBB aMX aRR RX10 (1, 99, 7, 0, 0) := ⟨_, rfl, by decide, by decide +kernel, tW1 88 rfl rfl⟩
set_option maxRecDepth 100000 in
theorem pf_X10_37 : a_pf aYY aBB aMX aRR RX10 (1, 102, 7, 2, 3) := ⟨_, rfl, by decide, by decide +kernel, tW1 94 rfl rfl⟩
set_option maxRecDepth 100000 in
theorem pf_X10_38 : a_pf aYY aBB aMX aRR RX10 (2, 99, 7, 0, 0) := ⟨_, rfl, by decide, by decide +kernel, tW1 88 rfl rfl, rfl⟩
set_option maxRecDepth 100000 in
theorem pf_X10_39 : a_pf aYY aBB aMX aRR RX10 (8, 105, 137, 110, 0) := ⟨fun _ => ⟨ca_Cp_changeHands, tW2 213 rfl rfl, tW2 215 rfl rfl, by decide, by decide +kernel, _, rfl, sW 1 rfl rfl⟩, (fun h => absurd h (by decide)), (fun h => absurd h (by decide)), (fun h => absurd h (by decide)), by decide⟩
set_option maxRecDepth 100000 in
theorem pf_X10_40 : a_pf aYY aBB aMX aRR RX10 (8, 108, 136, 210, 1) := ⟨fun _ => ⟨ca_Cp_accept, tW2 221 rfl rfl, tW2 223 rfl rfl, by decide, by decide +kernel, _, rfl, sW 2 rfl rfl⟩, (fun h => absurd h (by decide)), (fun h => absurd h (by decide)), (fun h => absurd h (by decide)), by decide⟩
set_option maxRecDepth 100000 in
theorem pf_X10_41 : a_pf aYY aBB aMX aRR RX10 (8, 111, 81, 207, 1) := ⟨fun _ => ⟨ca_Scene_has, tW2 229 rfl rfl, tW2 230 rfl rfl, by decide, by decide +kernel, _, rfl, tW2 231 rfl rfl⟩, (fun h => absurd h (by decide)), (fun h => absurd h (by decide)), (fun h => absurd h (by decide)), by decide⟩
set_option maxRecDepth 100000 in
theorem pf_X10_42 : a_pf aYY aBB aMX aRR RX10 (3, 115, 2, 0, 0) := ⟨_, Or.inl ⟨rfl, rfl⟩, Or.inl (tW2 237 rfl rfl)⟩
set_option maxRecDepth 100000 in
theorem pf_X10_43 : a_pf aYY aBB aMX aRR RX10 (3, 118, 3, 0, 0) := ⟨_, Or.inr (Or.inl ⟨rfl, rfl⟩), Or.inl (tW2 239 rfl rfl)⟩
set_option maxRecDepth 100000 in
theorem pf_X10_44 : a_pf aYY aBB aMX aRR RX10 (1, 121, 7, 3, 3) := ⟨_, rfl, by decide, by decide +kernel, tW1 101 rfl rfl⟩
set_option maxRecDepth 100000 in
theorem pf_X10_45 : a_pf aYY aBB aMX aRR RX10 (8, 124, 138, 110, 0) := ⟨fun _ => ⟨ca_Cp_changeCast, tW3 1 rfl rfl, tW3 3 rfl rfl, by decide, by decide +kernel, _, rfl, sW 3 rfl rfl⟩, (fun h => absurd h (by decide)), (fun h => absurd h (by decide)), (fun h => absurd h (by decide)), by decide⟩
set_option maxRecDepth 100000 in
theorem pf_X10_46 : a_pf aYY aBB aMX aRR RX10 (10, 127, 134, 100, 1) := ⟨fun _ => ⟨ca_Cp_isBeat, Or.inl (tW3 13 rfl rfl), tW3 14 rfl rfl, by decide +kernel⟩, (fun h => absurd h (by decide)), (fun h => absurd h (by decide)), (fun h => absurd h (by decide)), (fun h => absurd h (by decide)), (fun h => absurd h (by decide)), (fun h => absurd h (by decide)), by decide⟩
set_option maxRecDepth 100000 in
theorem pf_X10_47 : a_pf aYY aBB aMX aRR RX10 (8, 130, 85, 607, 0) := ⟨fun _ => ⟨ca_Scene_put, tW3 16 rfl rfl, tW3 17 rfl rfl, by decide, by decide +kernel, _, rfl, tW3 18 rfl rfl⟩, (fun h => absurd h (by decide)), (fun h => absurd h (by decide)), (fun h => absurd h (by decide)), by decide⟩
set_option maxRecDepth 100000 in
theorem pf_X10_48 : a_pf aYY aBB aMX aRR RX10 (8, 134, 82, 307, 1) := ⟨fun _ => ⟨ca_Scene_isOn, tW3 25 rfl rfl, tW3 26 rfl rfl, by decide, by decide +kernel, _, rfl, tW3 27 rfl rfl⟩, (fun h => absurd h (by decide)), (fun h => absurd h (by decide)), (fun h => absurd h (by decide)), by decide⟩
set_option maxRecDepth 100000 in
theorem pf_X10_49 : a_pf aYY aBB aMX aRR RX10 (1, 138, 7, 4, 3) := ⟨_, rfl, by decide, by decide +kernel, tW1 106 rfl rfl⟩
set_option maxRecDepth 100000 in
theorem pf_X10_50 : a_pf aYY aBB aMX aRR RX10 (1, 141, 7, 5, 3) := ⟨_, rfl, by decide, by decide +kernel, tW1 111 rfl rfl⟩
set_option maxRecDepth 100000 in
theorem pf_X10_51 : a_pf aYY aBB aMX aRR RX10 (8, 144, 83, 307, 1) := ⟨fun _ => ⟨ca_Scene_depth, tW3 33 rfl rfl, tW3 34 rfl rfl, by decide, by decide +kernel, _, rfl, tW3 35 rfl rfl⟩, (fun h => absurd h (by decide)), (fun h => absurd h (by decide)), (fun h => absurd h (by decide)), by decide⟩
set_option maxRecDepth 100000 in
theorem pf_X10_52 : a_pf aYY aBB aMX aRR RX10 (1, 78, 10, 11, 0) := ⟨_, rfl, by decide, by decide +kernel, tW2 167 rfl rfl⟩
set_option maxRecDepth 100000 in
theorem pf_X10_53 : a_pf aYY aBB aMX aRR RX10 (8, 148, 140, 210, 0) := ⟨fun _ => ⟨ca_Cp_writeWord, tW3 45 rfl rfl, tW3 47 rfl rfl, by decide, by decide +kernel, _, rfl, sW 4 rfl rfl⟩, (fun h => absurd h (by decide)), (fun h => absurd h (by decide)), (fun h => absurd h (by decide)), by decide⟩
set_option maxRecDepth 100000 in
theorem pf_X10_54 : a_pf aYY aBB aMX aRR RX10 (8, 152, 142, 110, 1) := ⟨fun _ => ⟨ca_Cp_takeSheet, tW3 57 rfl rfl, tW3 59 rfl rfl, by decide, by decide +kernel, _, rfl, sW 5 rfl rfl⟩, (fun h => absurd h (by decide)), (fun h => absurd h (by decide)), (fun h => absurd h (by decide)), by decide⟩
set_option maxRecDepth 100000 in
theorem pf_X10_55 : a_pf aYY aBB aMX aRR RX10 (8, 156, 141, 210, 1) := ⟨fun _ => ⟨ca_Cp_takeOutline, tW3 72 rfl rfl, tW3 74 rfl rfl, by decide, by decide +kernel, _, rfl, sW 6 rfl rfl⟩, (fun h => absurd h (by decide)), (fun h => absurd h (by decide)), (fun h => absurd h (by decide)), by decide⟩
set_option maxRecDepth 100000 in
theorem pf_X10_56 : a_pf aYY aBB aMX aRR RX10 (1, 82, 10, 12, 0) := ⟨_, rfl, by decide, by decide +kernel, tW2 168 rfl rfl⟩
set_option maxRecDepth 100000 in
theorem pf_X10_57 : a_pf aYY aBB aMX aRR RX10 (1, 159, 7, 1, 3) := ⟨_, rfl, by decide, by decide +kernel, tW1 92 rfl rfl⟩
set_option maxRecDepth 100000 in
theorem pf_X10_58 : a_pf aYY aBB aMX aRR RX10 (1, 27, 10, 3, 3) := ⟨_, rfl, by decide, by decide +kernel, tW2 159 rfl rfl⟩
set_option maxRecDepth 100000 in
theorem pf_X10_59 : a_pf aYY aBB aMX aRR RX10 (1, 20, 10, 2, 3) := ⟨_, rfl, by decide, by decide +kernel, tW2 158 rfl rfl⟩
set_option maxRecDepth 100000 in
theorem pf_X10_60 : a_pf aYY aBB aMX aRR RX10 (8, 162, 65, 306, 1) := ⟨fun _ => ⟨ca_Reader_readText, tW3 92 rfl rfl, tW3 93 rfl rfl, by decide, by decide +kernel, _, rfl, tW3 94 rfl rfl⟩, (fun h => absurd h (by decide)), (fun h => absurd h (by decide)), (fun h => absurd h (by decide)), by decide⟩
set_option maxRecDepth 100000 in
theorem pf_X10_61 : a_pf aYY aBB aMX aRR RX10 (1, 166, 6, 1, 0) := ⟨_, rfl, by decide, by decide +kernel, tW1 151 rfl rfl⟩
set_option maxRecDepth 100000 in
theorem pf_X10_62 : a_pf aYY aBB aMX aRR RX10 (1, 169, 7, 8, 3) := ⟨_, rfl, by decide, by decide +kernel, tW1 119 rfl rfl⟩
set_option maxRecDepth 100000 in
theorem pf_X10_63 : a_pf aYY aBB aMX aRR RX10 (1, 173, 6, 0, 3) := ⟨_, rfl, by decide, by decide +kernel, tW1 149 rfl rfl⟩
set_option maxRecDepth 100000 in
theorem pf_X10_64 : a_pf aYY aBB aMX aRR RX10 (8, 174, 96, 208, 0) := ⟨fun _ => ⟨ca_Script_takeFrom, tW3 234 rfl rfl, tW3 235 rfl rfl, by decide, by decide +kernel, _, rfl, tW3 236 rfl rfl⟩, (fun h => absurd h (by decide)), (fun h => absurd h (by decide)), (fun h => absurd h (by decide)), by decide⟩
set_option maxRecDepth 100000 in
theorem pf_X10_65 : a_pf aYY aBB aMX aRR RX10 (1, 180, 7, 6, 3) := ⟨_, rfl, by decide, by decide +kernel, tW1 113 rfl rfl⟩
set_option maxRecDepth 100000 in
theorem pf_X10_66 : a_pf aYY aBB aMX aRR RX10 (10, 183, 251, 200, 0) := ⟨fun _ => ⟨ca_J_fillI, Or.inl (tW3 239 rfl rfl), tW4 0 rfl rfl, by decide +kernel⟩, (fun h => absurd h (by decide)), (fun h => absurd h (by decide)), (fun h => absurd h (by decide)), (fun h => absurd h (by decide)), (fun h => absurd h (by decide)), (fun h => absurd h (by decide)), by decide⟩
set_option maxRecDepth 100000 in
theorem pf_X10_67 : a_pf aYY aBB aMX aRR RX10 (8, 189, 66, 206, 0) := ⟨fun _ => ⟨ca_Reader_tellMoves, tW4 2 rfl rfl, tW4 3 rfl rfl, by decide, by decide +kernel, _, rfl, tW4 4 rfl rfl⟩, (fun h => absurd h (by decide)), (fun h => absurd h (by decide)), (fun h => absurd h (by decide)), by decide⟩
set_option maxRecDepth 100000 in
theorem pf_X10_68 : a_pf aYY aBB aMX aRR RX10 (1, 192, 8, 0, 0) := ⟨_, rfl, by decide, by decide +kernel, tW1 54 rfl rfl⟩
set_option maxRecDepth 100000 in
theorem pf_X10_69 : a_pf aYY aBB aMX aRR RX10 (1, 85, 10, 13, 0) := ⟨_, rfl, by decide, by decide +kernel, tW2 169 rfl rfl⟩
set_option maxRecDepth 100000 in
theorem pf_X10_70 : a_pf aYY aBB aMX aRR RX10 (1, 36, 10, 4, 3) := ⟨_, rfl, by decide, by decide +kernel, tW2 160 rfl rfl⟩
set_option maxRecDepth 100000 in
theorem pf_X10_71 : a_pf aYY aBB aMX aRR RX10 (8, 195, 23, 302, 1) := ⟨fun _ => ⟨ca_Light_rowOfAll, tW4 16 rfl rfl, tW4 17 rfl rfl, by decide, by decide +kernel, _, rfl, tW4 18 rfl rfl⟩, (fun h => absurd h (by decide)), (fun h => absurd h (by decide)), (fun h => absurd h (by decide)), by decide⟩
set_option maxRecDepth 100000 in
theorem pf_X10_72 : a_pf aYY aBB aMX aRR RX10 (8, 198, 22, 402, 1) := ⟨fun _ => ⟨ca_Light_rowOf, tW4 30 rfl rfl, tW4 21 rfl rfl, by decide, by decide +kernel, _, rfl, tW4 22 rfl rfl⟩, (fun h => absurd h (by decide)), (fun h => absurd h (by decide)), (fun h => absurd h (by decide)), by decide⟩
set_option maxRecDepth 100000 in
theorem pf_X10_73 : a_pf aYY aBB aMX aRR RX10 (8, 202, 24, 402, 1) := ⟨fun _ => ⟨ca_Light_cellsInBoth, tW4 35 rfl rfl, tW4 36 rfl rfl, by decide, by decide +kernel, _, rfl, tW4 37 rfl rfl⟩, (fun h => absurd h (by decide)), (fun h => absurd h (by decide)), (fun h => absurd h (by decide)), by decide⟩
set_option maxRecDepth 100000 in
theorem pf_X10_74 : a_pf aYY aBB aMX aRR RX10 (8, 205, 25, 302, 1) := ⟨fun _ => ⟨ca_Light_hiddenCells, tW4 40 rfl rfl, tW4 41 rfl rfl, by decide, by decide +kernel, _, rfl, tW4 42 rfl rfl⟩, (fun h => absurd h (by decide)), (fun h => absurd h (by decide)), (fun h => absurd h (by decide)), by decide⟩
set_option maxRecDepth 100000 in
theorem pf_X10_75 : a_pf aYY aBB aMX aRR RX10 (8, 208, 26, 302, 1) := ⟨fun _ => ⟨ca_Light_blur, tW4 44 rfl rfl, tW4 45 rfl rfl, by decide, by decide +kernel, _, rfl, tW4 46 rfl rfl⟩, (fun h => absurd h (by decide)), (fun h => absurd h (by decide)), (fun h => absurd h (by decide)), by decide⟩
set_option maxRecDepth 100000 in
theorem pf_X10_76 : a_pf aYY aBB aMX aRR RX10 (8, 211, 84, 207, 1) := ⟨fun _ => ⟨ca_Scene_onBits, tW4 56 rfl rfl, tW4 57 rfl rfl, by decide, by decide +kernel, _, rfl, tW4 58 rfl rfl⟩, (fun h => absurd h (by decide)), (fun h => absurd h (by decide)), (fun h => absurd h (by decide)), by decide⟩
set_option maxRecDepth 100000 in
theorem pf_X10_77 : a_pf aYY aBB aMX aRR RX10 (8, 214, 7, 201, 0) := ⟨fun _ => ⟨ca_Hands_lookAt, tW4 60 rfl rfl, tW4 61 rfl rfl, by decide, by decide +kernel, _, rfl, tW4 62 rfl rfl⟩, (fun h => absurd h (by decide)), (fun h => absurd h (by decide)), (fun h => absurd h (by decide)), by decide⟩
set_option maxRecDepth 100000 in
theorem pf_X10_78 : a_pf aYY aBB aMX aRR RX10 (8, 217, 8, 401, 1) := ⟨fun _ => ⟨ca_Hands_canHold, tW4 121 rfl rfl, tW4 122 rfl rfl, by decide, by decide +kernel, _, rfl, tW4 123 rfl rfl⟩, (fun h => absurd h (by decide)), (fun h => absurd h (by decide)), (fun h => absurd h (by decide)), by decide⟩
set_option maxRecDepth 100000 in
theorem pf_X10_79 : a_pf aYY aBB aMX aRR RX10 (8, 221, 9, 301, 1) := ⟨fun _ => ⟨ca_Hands_waysOfAll, tW4 129 rfl rfl, tW4 130 rfl rfl, by decide, by decide +kernel, _, rfl, tW4 131 rfl rfl⟩, (fun h => absurd h (by decide)), (fun h => absurd h (by decide)), (fun h => absurd h (by decide)), by decide⟩
set_option maxRecDepth 100000 in
theorem pf_X10_80 : a_pf aYY aBB aMX aRR RX10 (1, 61, 10, 7, 3) := ⟨_, rfl, by decide, by decide +kernel, tW2 163 rfl rfl⟩
set_option maxRecDepth 100000 in
theorem pf_X10_81 : a_pf aYY aBB aMX aRR RX10 (8, 224, 44, 104, 1) := ⟨fun _ => ⟨ca_Planner_findLeast, tW4 141 rfl rfl, tW4 142 rfl rfl, by decide, by decide +kernel, _, rfl, tW4 143 rfl rfl⟩, (fun h => absurd h (by decide)), (fun h => absurd h (by decide)), (fun h => absurd h (by decide)), by decide⟩
set_option maxRecDepth 100000 in
theorem pf_X10_82 : a_pf aYY aBB aMX aRR RX10 (1, 228, 4, 1, 0) := ⟨_, rfl, by decide, by decide +kernel, tW2 17 rfl rfl⟩
set_option maxRecDepth 100000 in
theorem pf_X10_83 : a_pf aYY aBB aMX aRR RX10 (1, 231, 4, 2, 0) := ⟨_, rfl, by decide, by decide +kernel, tW2 19 rfl rfl⟩
set_option maxRecDepth 100000 in
theorem pf_X10_84 : a_pf aYY aBB aMX aRR RX10 (8, 234, 45, 304, 1) := ⟨fun _ => ⟨ca_Planner_holderAt, tW4 226 rfl rfl, tW4 227 rfl rfl, by decide, by decide +kernel, _, rfl, tW4 228 rfl rfl⟩, (fun h => absurd h (by decide)), (fun h => absurd h (by decide)), (fun h => absurd h (by decide)), by decide⟩
set_option maxRecDepth 100000 in
theorem pf_X10_85 : a_pf aYY aBB aMX aRR RX10 (8, 237, 46, 204, 1) := ⟨fun _ => ⟨ca_Planner_passesOf, tW4 235 rfl rfl, tW4 236 rfl rfl, by decide, by decide +kernel, _, rfl, tW4 237 rfl rfl⟩, (fun h => absurd h (by decide)), (fun h => absurd h (by decide)), (fun h => absurd h (by decide)), by decide⟩
set_option maxRecDepth 100000 in
theorem pf_X10_86 : a_pf aYY aBB aMX aRR RX10 (8, 240, 10, 201, 1) := ⟨fun _ => ⟨ca_Hands_firstBarred, tW5 4 rfl rfl, tW4 146 rfl rfl, by decide, by decide +kernel, _, rfl, tW4 147 rfl rfl⟩, (fun h => absurd h (by decide)), (fun h => absurd h (by decide)), (fun h => absurd h (by decide)), by decide⟩
set_option maxRecDepth 100000 in
theorem pf_X10_87 : a_pf aYY aBB aMX aRR RX10 (8, 243, 11, 301, 1) := ⟨fun _ => ⟨ca_Hands_coreAt, tW5 9 rfl rfl, tW5 10 rfl rfl, by decide, by decide +kernel, _, rfl, tW5 11 rfl rfl⟩, (fun h => absurd h (by decide)), (fun h => absurd h (by decide)), (fun h => absurd h (by decide)), by decide⟩
set_option maxRecDepth 100000 in
theorem pf_X10_88 : a_pf aYY aBB aMX aRR RX10 (8, 246, 139, 210, 1) := ⟨fun _ => ⟨ca_Cp_canBeAsked, tW5 17 rfl rfl, tW5 19 rfl rfl, by decide, by decide +kernel, _, rfl, sW 37 rfl rfl⟩, (fun h => absurd h (by decide)), (fun h => absurd h (by decide)), (fun h => absurd h (by decide)), by decide⟩
set_option maxRecDepth 100000 in
theorem pf_X10_89 : a_pf aYY aBB aMX aRR RX10 (1, 68, 10, 8, 3) := ⟨_, rfl, by decide, by decide +kernel, tW2 164 rfl rfl⟩
set_option maxRecDepth 100000 in
theorem pf_X10_90 : a_pf aYY aBB aMX aRR RX10 (8, 249, 29, 203, 0) := ⟨fun _ => ⟨ca_Maker_solve, tW5 21 rfl rfl, tW5 22 rfl rfl, by decide, by decide +kernel, _, rfl, tW5 23 rfl rfl⟩, (fun h => absurd h (by decide)), (fun h => absurd h (by decide)), (fun h => absurd h (by decide)), by decide⟩
set_option maxRecDepth 100000 in
theorem pf_X10_91 : a_pf aYY aBB aMX aRR RX10 (8, 252, 30, 103, 1) := ⟨fun _ => ⟨ca_Maker_wayCount, tW5 157 rfl rfl, tW5 158 rfl rfl, by decide, by decide +kernel, _, rfl, tW5 159 rfl rfl⟩, (fun h => absurd h (by decide)), (fun h => absurd h (by decide)), (fun h => absurd h (by decide)), by decide⟩
set_option maxRecDepth 100000 in
theorem pf_X10_92 : a_pf aYY aBB aMX aRR RX10 (1, 255, 3, 0, 0) := ⟨_, rfl, by decide, by decide +kernel, tW2 113 rfl rfl⟩
set_option maxRecDepth 100000 in
theorem pf_X10_93 : a_pf aYY aBB aMX aRR RX10 (8, 258, 31, 303, 1) := ⟨fun _ => ⟨ca_Maker_tellOf, tW5 167 rfl rfl, tW5 168 rfl rfl, by decide, by decide +kernel, _, rfl, tW5 169 rfl rfl⟩, (fun h => absurd h (by decide)), (fun h => absurd h (by decide)), (fun h => absurd h (by decide)), by decide⟩
set_option maxRecDepth 100000 in
theorem pf_X10_94 : a_pf aYY aBB aMX aRR RX10 (1, 261, 7, 7, 3) := ⟨_, rfl, by decide, by decide +kernel, tW1 116 rfl rfl⟩
set_option maxRecDepth 100000 in
theorem pf_X10_95 : a_pf aYY aBB aMX aRR RX10 (8, 264, 87, 107, 1) := ⟨fun _ => ⟨ca_Scene_toldCells, tW3 62 rfl rfl, tW3 63 rfl rfl, by decide, by decide +kernel, _, rfl, tW3 64 rfl rfl⟩, (fun h => absurd h (by decide)), (fun h => absurd h (by decide)), (fun h => absurd h (by decide)), by decide⟩
set_option maxRecDepth 100000 in
theorem pf_X10_96 : a_pf aYY aBB aMX aRR RX10 (1, 72, 10, 9, 3) := ⟨_, rfl, by decide, by decide +kernel, tW2 165 rfl rfl⟩
set_option maxRecDepth 100000 in
theorem pf_X10_97 : a_pf aYY aBB aMX aRR RX10 (8, 274, 1, 500, 0) := ⟨fun _ => ⟨ca_Asker_turnTo, tW5 187 rfl rfl, tW4 83 rfl rfl, by decide, by decide +kernel, _, rfl, tW4 84 rfl rfl⟩, (fun h => absurd h (by decide)), (fun h => absurd h (by decide)), (fun h => absurd h (by decide)), by decide⟩
set_option maxRecDepth 100000 in
theorem pf_X10_98 : a_pf aYY aBB aMX aRR RX10 (8, 280, 2, 400, 1) := ⟨fun _ => ⟨ca_Asker_tellLast, tW5 189 rfl rfl, tW4 89 rfl rfl, by decide, by decide +kernel, _, rfl, tW4 90 rfl rfl⟩, (fun h => absurd h (by decide)), (fun h => absurd h (by decide)), (fun h => absurd h (by decide)), by decide⟩
set_option maxRecDepth 100000 in
theorem pf_X10_99 : a_pf aYY aBB aMX aRR RX10 (1, 91, 10, 15, 1) := ⟨_, rfl, by decide, by decide +kernel, tW2 171 rfl rfl⟩
set_option maxRecDepth 100000 in
theorem pf_X10_100 : a_pf aYY aBB aMX aRR RX10 (1, 16, 10, 1, 3) := ⟨_, rfl, by decide, by decide +kernel, tW2 157 rfl rfl⟩
set_option maxRecDepth 100000 in
theorem pf_X10_101 : a_pf aYY aBB aMX aRR RX10 (8, 283, 88, 207, 0) := ⟨fun _ => ⟨ca_Scene_takeFrom, tW5 198 rfl rfl, tW5 199 rfl rfl, by decide, by decide +kernel, _, rfl, tW5 200 rfl rfl⟩, (fun h => absurd h (by decide)), (fun h => absurd h (by decide)), (fun h => absurd h (by decide)), by decide⟩
set_option maxRecDepth 100000 in
theorem pf_X10_102 : a_pf aYY aBB aMX aRR RX10 (8, 285, 143, 210, 1) := ⟨fun _ => ⟨ca_Cp_countBeats, tW5 212 rfl rfl, tW5 214 rfl rfl, by decide, by decide +kernel, _, rfl, sW 50 rfl rfl⟩, (fun h => absurd h (by decide)), (fun h => absurd h (by decide)), (fun h => absurd h (by decide)), by decide⟩
set_option maxRecDepth 100000 in
theorem pf_X10_103 : a_pf aYY aBB aMX aRR RX10 (1, 75, 10, 10, 3) := ⟨_, rfl, by decide, by decide +kernel, tW2 166 rfl rfl⟩
set_option maxRecDepth 100000 in
theorem pf_X10_104 : a_pf aYY aBB aMX aRR RX10 (1, 88, 10, 14, 0) := ⟨_, rfl, by decide, by decide +kernel, tW2 170 rfl rfl⟩
set_option maxRecDepth 100000 in
theorem pf_X10_105 : a_pf aYY aBB aMX aRR RX10 (8, 288, 6, 101, 0) := ⟨fun _ => ⟨ca_Hands_forget, tW2 217 rfl rfl, tW2 218 rfl rfl, by decide, by decide +kernel, _, rfl, tW2 219 rfl rfl⟩, (fun h => absurd h (by decide)), (fun h => absurd h (by decide)), (fun h => absurd h (by decide)), by decide⟩
set_option maxRecDepth 100000 in
theorem pf_X10_106 : a_pf aYY aBB aMX aRR RX10 (2, 291, 4, 0, 1) := ⟨_, rfl, by decide, by decide +kernel, tW2 15 rfl rfl, rfl⟩
set_option maxRecDepth 100000 in
theorem pf_X10_107 : a_pf aYY aBB aMX aRR RX10 (8, 294, 28, 103, 0) := ⟨fun _ => ⟨ca_Maker_forget, tW3 5 rfl rfl, tW3 6 rfl rfl, by decide, by decide +kernel, _, rfl, tW3 7 rfl rfl⟩, (fun h => absurd h (by decide)), (fun h => absurd h (by decide)), (fun h => absurd h (by decide)), by decide⟩
set_option maxRecDepth 100000 in
theorem pf_X10_108 : a_pf aYY aBB aMX aRR RX10 (10, 297, 245, 100, 1) := ⟨fun _ => ⟨ca_J_bitI, Or.inl (tW3 76 rfl rfl), tW3 67 rfl rfl, by decide +kernel⟩, (fun h => absurd h (by decide)), (fun h => absurd h (by decide)), (fun h => absurd h (by decide)), (fun h => absurd h (by decide)), (fun h => absurd h (by decide)), (fun h => absurd h (by decide)), by decide⟩
set_option maxRecDepth 100000 in
theorem pf_X10_109 : a_pf aYY aBB aMX aRR RX10 (10, 302, 0, 0, 16) := ⟨(fun h => absurd h (by decide)), (fun h => absurd h (by decide)), (fun h => absurd h (by decide)), fun _ => ⟨rfl, tW3 77 rfl rfl⟩, (fun h => absurd h (by decide)), (fun h => absurd h (by decide)), (fun h => absurd h (by decide)), by decide⟩
set_option maxRecDepth 100000 in
theorem pf_X10_110 : a_pf aYY aBB aMX aRR RX10 (10, 307, 0, 0, 15) := ⟨(fun h => absurd h (by decide)), (fun h => absurd h (by decide)), fun _ => ⟨rfl, tW3 61 rfl rfl⟩, (fun h => absurd h (by decide)), (fun h => absurd h (by decide)), (fun h => absurd h (by decide)), (fun h => absurd h (by decide)), by decide⟩
set_option maxRecDepth 100000 in
theorem pa_X10 : ∀ e ∈ po_X10, a_pf aYY aBB aMX aRR RX10 e := List.forall_mem_cons.mpr ⟨pf_X10_0, List.forall_mem_cons.mpr ⟨pf_X10_1, List.forall_mem_cons.mpr ⟨pf_X10_2, List.forall_mem_cons.mpr ⟨pf_X10_3, List.forall_mem_cons.mpr ⟨pf_X10_4, List.forall_mem_cons.mpr ⟨pf_X10_5, List.forall_mem_cons.mpr ⟨pf_X10_6, List.forall_mem_cons.mpr ⟨pf_X10_7, List.forall_mem_cons.mpr ⟨pf_X10_8, List.forall_mem_cons.mpr ⟨pf_X10_9, List.forall_mem_cons.mpr ⟨pf_X10_10, List.forall_mem_cons.mpr ⟨pf_X10_11, List.forall_mem_cons.mpr ⟨pf_X10_12, List.forall_mem_cons.mpr ⟨pf_X10_13, List.forall_mem_cons.mpr ⟨pf_X10_14, List.forall_mem_cons.mpr ⟨pf_X10_15, List.forall_mem_cons.mpr ⟨pf_X10_16, List.forall_mem_cons.mpr ⟨pf_X10_17, List.forall_mem_cons.mpr ⟨pf_X10_18, List.forall_mem_cons.mpr ⟨pf_X10_19, List.forall_mem_cons.mpr ⟨pf_X10_20, List.forall_mem_cons.mpr ⟨pf_X10_21, List.forall_mem_cons.mpr ⟨pf_X10_22, List.forall_mem_cons.mpr ⟨pf_X10_23, List.forall_mem_cons.mpr ⟨pf_X10_24, List.forall_mem_cons.mpr ⟨pf_X10_25, List.forall_mem_cons.mpr ⟨pf_X10_26, List.forall_mem_cons.mpr ⟨pf_X10_27, List.forall_mem_cons.mpr ⟨pf_X10_28, List.forall_mem_cons.mpr ⟨pf_X10_29, List.forall_mem_cons.mpr ⟨pf_X10_30, List.forall_mem_cons.mpr ⟨pf_X10_31, List.forall_mem_cons.mpr ⟨pf_X10_32, List.forall_mem_cons.mpr ⟨pf_X10_33, List.forall_mem_cons.mpr ⟨pf_X10_34, List.forall_mem_cons.mpr ⟨pf_X10_35, List.forall_mem_cons.mpr ⟨pf_X10_36, List.forall_mem_cons.mpr ⟨pf_X10_37, List.forall_mem_cons.mpr ⟨pf_X10_38, List.forall_mem_cons.mpr ⟨pf_X10_39, List.forall_mem_cons.mpr ⟨pf_X10_40, List.forall_mem_cons.mpr ⟨pf_X10_41, List.forall_mem_cons.mpr ⟨pf_X10_42, List.forall_mem_cons.mpr ⟨pf_X10_43, List.forall_mem_cons.mpr ⟨pf_X10_44, List.forall_mem_cons.mpr ⟨pf_X10_45, List.forall_mem_cons.mpr ⟨pf_X10_46, List.forall_mem_cons.mpr ⟨pf_X10_47, List.forall_mem_cons.mpr ⟨pf_X10_48, List.forall_mem_cons.mpr ⟨pf_X10_49, List.forall_mem_cons.mpr ⟨pf_X10_50, List.forall_mem_cons.mpr ⟨pf_X10_51, List.forall_mem_cons.mpr ⟨pf_X10_52, List.forall_mem_cons.mpr ⟨pf_X10_53, List.forall_mem_cons.mpr ⟨pf_X10_54, List.forall_mem_cons.mpr ⟨pf_X10_55, List.forall_mem_cons.mpr ⟨pf_X10_56, List.forall_mem_cons.mpr ⟨pf_X10_57, List.forall_mem_cons.mpr ⟨pf_X10_58, List.forall_mem_cons.mpr ⟨pf_X10_59, List.forall_mem_cons.mpr ⟨pf_X10_60, List.forall_mem_cons.mpr ⟨pf_X10_61, List.forall_mem_cons.mpr ⟨pf_X10_62, List.forall_mem_cons.mpr ⟨pf_X10_63, List.forall_mem_cons.mpr ⟨pf_X10_64, List.forall_mem_cons.mpr ⟨pf_X10_65, List.forall_mem_cons.mpr ⟨pf_X10_66, List.forall_mem_cons.mpr ⟨pf_X10_67, List.forall_mem_cons.mpr ⟨pf_X10_68, List.forall_mem_cons.mpr ⟨pf_X10_69, List.forall_mem_cons.mpr ⟨pf_X10_70, List.forall_mem_cons.mpr ⟨pf_X10_71, List.forall_mem_cons.mpr ⟨pf_X10_72, List.forall_mem_cons.mpr ⟨pf_X10_73, List.forall_mem_cons.mpr ⟨pf_X10_74, List.forall_mem_cons.mpr ⟨pf_X10_75, List.forall_mem_cons.mpr ⟨pf_X10_76, List.forall_mem_cons.mpr ⟨pf_X10_77, List.forall_mem_cons.mpr ⟨pf_X10_78, List.forall_mem_cons.mpr ⟨pf_X10_79, List.forall_mem_cons.mpr ⟨pf_X10_80, List.forall_mem_cons.mpr ⟨pf_X10_81, List.forall_mem_cons.mpr ⟨pf_X10_82, List.forall_mem_cons.mpr ⟨pf_X10_83, List.forall_mem_cons.mpr ⟨pf_X10_84, List.forall_mem_cons.mpr ⟨pf_X10_85, List.forall_mem_cons.mpr ⟨pf_X10_86, List.forall_mem_cons.mpr ⟨pf_X10_87, List.forall_mem_cons.mpr ⟨pf_X10_88, List.forall_mem_cons.mpr ⟨pf_X10_89, List.forall_mem_cons.mpr ⟨pf_X10_90, List.forall_mem_cons.mpr ⟨pf_X10_91, List.forall_mem_cons.mpr ⟨pf_X10_92, List.forall_mem_cons.mpr ⟨pf_X10_93, List.forall_mem_cons.mpr ⟨pf_X10_94, List.forall_mem_cons.mpr ⟨pf_X10_95, List.forall_mem_cons.mpr ⟨pf_X10_96, List.forall_mem_cons.mpr ⟨pf_X10_97, List.forall_mem_cons.mpr ⟨pf_X10_98, List.forall_mem_cons.mpr ⟨pf_X10_99, List.forall_mem_cons.mpr ⟨pf_X10_100, List.forall_mem_cons.mpr ⟨pf_X10_101, List.forall_mem_cons.mpr ⟨pf_X10_102, List.forall_mem_cons.mpr ⟨pf_X10_103, List.forall_mem_cons.mpr ⟨pf_X10_104, List.forall_mem_cons.mpr ⟨pf_X10_105, List.forall_mem_cons.mpr ⟨pf_X10_106, List.forall_mem_cons.mpr ⟨pf_X10_107, List.forall_mem_cons.mpr ⟨pf_X10_108, List.forall_mem_cons.mpr ⟨pf_X10_109, List.forall_mem_cons.mpr ⟨pf_X10_110, (fun _ h => absurd h List.not_mem_nil)⟩⟩⟩⟩⟩⟩⟩⟩⟩⟩⟩⟩⟩⟩⟩⟩⟩⟩⟩⟩⟩⟩⟩⟩⟩⟩⟩⟩⟩⟩⟩⟩⟩⟩⟩⟩⟩⟩⟩⟩⟩⟩⟩⟩⟩⟩⟩⟩⟩⟩⟩⟩⟩⟩⟩⟩⟩⟩⟩⟩⟩⟩⟩⟩⟩⟩⟩⟩⟩⟩⟩⟩⟩⟩⟩⟩⟩⟩⟩⟩⟩⟩⟩⟩⟩⟩⟩⟩⟩⟩⟩⟩⟩⟩⟩⟩⟩⟩⟩⟩⟩⟩⟩⟩⟩⟩⟩⟩⟩⟩⟩
def kI_X10 : List (Nat × Int32) := [(267, 1000000)]
set_option maxRecDepth 100000 in
theorem ka_X10 : ∀ e ∈ kI_X10, Jvm.Cond.constant RX10 e.1 e.2 ∈ aW := List.forall_mem_cons.mpr ⟨tW5 183 rfl rfl, (fun _ h => absurd h List.not_mem_nil)⟩
def kL_X10 : List (Nat × Int64) := [(268, 1103), (270, 12345), (272, 1000003), (278, 100)]
set_option maxRecDepth 100000 in
theorem kb_X10 : ∀ e ∈ kL_X10, Jvm.Cond.constantLong RX10 e.1 e.2 ∈ aW := List.forall_mem_cons.mpr ⟨tW5 184 rfl rfl, List.forall_mem_cons.mpr ⟨tW5 185 rfl rfl, List.forall_mem_cons.mpr ⟨tW5 186 rfl rfl, List.forall_mem_cons.mpr ⟨tW5 188 rfl rfl, (fun _ h => absurd h List.not_mem_nil)⟩⟩⟩⟩
def po_X11 : List (Nat × Nat × Nat × Nat × Nat) := [(9, 1, 0, 0, 10), (11, 7, 11, 2, 3), (11, 13, 11, 3, 3), (11, 16, 11, 4, 3), (11, 19, 11, 5, 3), (11, 23, 11, 7, 3), (2, 26, 11, 13, 0), (11, 30, 11, 16, 3), (11, 33, 11, 18, 3), (11, 36, 11, 19, 3), (11, 39, 11, 21, 3), (11, 42, 11, 22, 3), (11, 61, 11, 25, 3), (11, 65, 11, 26, 3), (11, 68, 11, 29, 3), (11, 71, 11, 30, 3), (11, 74, 11, 35, 3), (11, 78, 11, 37, 3), (11, 81, 11, 38, 3), (11, 84, 11, 39, 3), (11, 87, 11, 40, 3), (11, 90, 11, 41, 3), (11, 93, 11, 42, 3), (11, 96, 11, 43, 3), (11, 99, 11, 46, 3), (11, 102, 11, 47, 3), (11, 105, 11, 48, 3), (11, 108, 11, 50, 3), (11, 111, 11, 51, 3), (11, 114, 11, 52, 3), (11, 117, 11, 53, 3), (11, 120, 11, 54, 3), (11, 123, 11, 57, 3), (11, 126, 11, 59, 3), (11, 129, 11, 60, 3), (1, 13, 11, 3, 3), (2, 135, 11, 1, 0), (1, 138, 11, 36, 1), (2, 138, 11, 36, 1), (1, 7, 11, 2, 3), (8, 142, 148, 211, 1), (2, 132, 11, 0, 0), (10, 146, 145, 300, 1), (8, 150, 147, 211, 1), (1, 16, 11, 4, 3), (1, 19, 11, 5, 3), (8, 155, 152, 211, 1), (8, 159, 155, 411, 1), (8, 163, 154, 211, 1), (8, 168, 149, 311, 1), (10, 182, 160, 200, 1), (10, 186, 153, 100, 1), (8, 191, 162, 711, 0), (8, 195, 156, 311, 1), (8, 198, 157, 311, 1), (1, 201, 11, 8, 0), (2, 201, 11, 8, 0), (1, 23, 11, 7, 3), (10, 204, 166, 100, 1), (2, 207, 11, 6, 0), (1, 207, 11, 6, 0), (8, 212, 171, 211, 0), (2, 216, 11, 10, 0), (2, 219, 11, 14, 1), (8, 222, 177, 111, 0), (1, 216, 11, 10, 0), (2, 225, 11, 9, 0), (1, 225, 11, 9, 0), (2, 228, 11, 12, 2), (10, 232, 174, 100, 1), (10, 235, 175, 100, 1), (2, 238, 11, 11, 0), (1, 238, 11, 11, 0), (1, 228, 11, 12, 2), (1, 219, 11, 14, 1), (8, 251, 180, 211, 0), (1, 26, 11, 13, 0), (1, 33, 11, 18, 3), (1, 255, 11, 17, 0), (1, 36, 11, 19, 3), (2, 255, 11, 17, 0), (1, 39, 11, 21, 3), (1, 258, 11, 23, 0), (1, 42, 11, 22, 3), (2, 258, 11, 23, 0), (10, 261, 185, 100, 1), (8, 264, 183, 311, 0), (1, 61, 11, 25, 3), (8, 274, 178, 211, 1), (1, 278, 11, 24, 0), (2, 278, 11, 24, 0), (8, 281, 184, 311, 0), (1, 284, 11, 20, 0), (2, 284, 11, 20, 0), (8, 287, 179, 211, 1), (8, 290, 190, 211, 0), (8, 293, 189, 111, 1), (8, 299, 191, 411, 0), (8, 305, 192, 111, 1), (8, 308, 186, 211, 0), (8, 311, 187, 111, 1), (8, 314, 188, 111, 1), (8, 322, 193, 111, 1), (8, 325, 194, 211, 1), (8, 329, 195, 111, 1), (8, 332, 181, 311, 1), (1, 344, 11, 27, 0), (1, 65, 11, 26, 3), (2, 344, 11, 27, 0), (1, 353, 11, 28, 0), (2, 353, 11, 28, 0), (8, 356, 197, 111, 0), (1, 359, 11, 15, 0), (1, 30, 11, 16, 3), (2, 359, 11, 15, 0), (8, 362, 196, 211, 0), (8, 367, 176, 111, 0), (8, 370, 198, 111, 0), (2, 373, 11, 31, 1), (1, 373, 11, 31, 1), (1, 71, 11, 30, 3), (1, 68, 11, 29, 3), (8, 376, 200, 411, 2), (2, 384, 11, 32, 2), (8, 387, 201, 311, 0), (1, 384, 11, 32, 2), (2, 390, 11, 33, 2), (2, 393, 11, 34, 0), (1, 393, 11, 34, 0), (8, 396, 202, 211, 1), (1, 390, 11, 33, 2), (10, 399, 146, 200, 1), (8, 402, 204, 411, 1), (8, 405, 205, 311, 1), (8, 408, 203, 811, 1), (8, 412, 212, 311, 1), (8, 415, 211, 411, 1), (8, 421, 213, 211, 1), (8, 424, 210, 411, 1), (1, 74, 11, 35, 3), (10, 427, 216, 200, 1), (8, 430, 215, 311, 0), (8, 433, 217, 411, 1), (8, 436, 218, 411, 1), (8, 439, 221, 211, 0), (2, 443, 11, 44, 0), (1, 78, 11, 37, 3), (1, 443, 11, 44, 0), (1, 81, 11, 38, 3), (2, 447, 11, 45, 0), (8, 450, 224, 111, 0), (1, 84, 11, 39, 3), (1, 87, 11, 40, 3), (8, 453, 222, 511, 0), (1, 96, 11, 43, 3), (1, 90, 11, 41, 3), (1, 93, 11, 42, 3), (8, 457, 223, 411, 1), (1, 99, 11, 46, 3), (8, 460, 220, 111, 0), (1, 447, 11, 45, 0), (2, 463, 11, 49, 0), (1, 463, 11, 49, 0), (1, 102, 11, 47, 3), (1, 105, 11, 48, 3), (1, 114, 11, 52, 3), (1, 117, 11, 53, 3), (8, 466, 232, 511, 0), (1, 120, 11, 54, 3), (1, 108, 11, 50, 3), (1, 111, 11, 51, 3), (2, 470, 11, 55, 0), (2, 473, 11, 58, 2), (2, 476, 11, 56, 0), (8, 479, 231, 211, 0), (8, 482, 235, 311, 0), (1, 126, 11, 59, 3), (8, 485, 234, 311, 2), (8, 489, 236, 611, 0), (1, 473, 11, 58, 2), (1, 470, 11, 55, 0), (1, 123, 11, 57, 3), (8, 493, 237, 211, 1), (8, 496, 230, 111, 1), (8, 499, 233, 211, 0), (1, 476, 11, 56, 0), (1, 129, 11, 60, 3), (2, 510, 11, 61, 1), (1, 510, 11, 61, 1), (1, 135, 11, 1, 0)]
set_option maxRecDepth 100000 in
theorem pf_X11_0 : a_pf aYY aBB aMX aRR RX11 (9, 1, 0, 0, 10) := ⟨(fun h => absurd h (by decide)), fun _ => ⟨rfl, tW5 225 rfl rfl, tW1 29 rfl rfl, tW1 30 rfl rfl⟩, by decide⟩
set_option maxRecDepth 100000 in
theorem pf_X11_1 : a_pf aYY aBB aMX aRR RX11 (11, 7, 11, 2, 3) := ⟨_, rfl, by decide, by decide +kernel, tW5 237 rfl rfl, rfl, rfl⟩
set_option maxRecDepth 100000 in
theorem pf_X11_2 : a_pf aYY aBB aMX aRR RX11 (11, 13, 11, 3, 3) := ⟨_, rfl, by decide, by decide +kernel, tW5 238 rfl rfl, rfl, rfl⟩
set_option maxRecDepth 100000 in
theorem pf_X11_3 : a_pf aYY aBB aMX aRR RX11 (11, 16, 11, 4, 3) := ⟨_, rfl, by decide, by decide +kernel, tW5 239 rfl rfl, rfl, rfl⟩
set_option maxRecDepth 100000 in
theorem pf_X11_4 : a_pf aYY aBB aMX aRR RX11 (11, 19, 11, 5, 3) := ⟨_, rfl, by decide, by decide +kernel, tW6 0 rfl rfl, rfl, rfl⟩
set_option maxRecDepth 100000 in
theorem pf_X11_5 : a_pf aYY aBB aMX aRR RX11 (11, 23, 11, 7, 3) := ⟨_, rfl, by decide, by decide +kernel, tW6 2 rfl rfl, rfl, rfl⟩
set_option maxRecDepth 100000 in
theorem pf_X11_6 : a_pf aYY aBB aMX aRR RX11 (2, 26, 11, 13, 0) := ⟨_, rfl, by decide, by decide +kernel, tW6 8 rfl rfl, rfl⟩
set_option maxRecDepth 100000 in
theorem pf_X11_7 : a_pf aYY aBB aMX aRR RX11 (11, 30, 11, 16, 3) := ⟨_, rfl, by decide, by decide +kernel, tW6 11 rfl rfl, rfl, rfl⟩
set_option maxRecDepth 100000 in
theorem pf_X11_8 : a_pf aYY aBB aMX aRR RX11 (11, 33, 11, 18, 3) := ⟨_, rfl, by decide, by decide +kernel, tW6 13 rfl rfl, rfl, rfl⟩
set_option maxRecDepth 100000 in
theorem pf_X11_9 : a_pf aYY aBB aMX aRR RX11 (11, 36, 11, 19, 3) := ⟨_, rfl, by decide, by decide +kernel, tW6 14 rfl rfl, rfl, rfl⟩
set_option maxRecDepth 100000 in
theorem pf_X11_10 : a_pf aYY aBB aMX aRR RX11 (11, 39, 11, 21, 3) := ⟨_, rfl, by decide, by decide +kernel, tW6 16 rfl rfl, rfl, rfl⟩
set_option maxRecDepth 100000 in
theorem pf_X11_11 : a_pf aYY aBB aMX aRR RX11 (11, 42, 11, 22, 3) := ⟨_, rfl, by decide, by decide +kernel, tW6 17 rfl rfl, rfl, rfl⟩
set_option maxRecDepth 100000 in
theorem pf_X11_12 : a_pf aYY aBB aMX aRR RX11 (11, 61, 11, 25, 3) := ⟨_, rfl, by decide, by decide +kernel, tW6 20 rfl rfl, rfl, rfl⟩
set_option maxRecDepth 100000 in
theorem pf_X11_13 : a_pf aYY aBB aMX aRR RX11 (11, 65, 11, 26, 3) := ⟨_, rfl, by decide, by decide +kernel, tW6 21 rfl rfl, rfl, rfl⟩
set_option maxRecDepth 100000 in
theorem pf_X11_14 : a_pf aYY aBB aMX aRR RX11 (11, 68, 11, 29, 3) := ⟨_, rfl, by decide, by decide +kernel, tW6 24 rfl rfl, rfl, rfl⟩
set_option maxRecDepth 100000 in
theorem pf_X11_15 : a_pf aYY aBB aMX aRR RX11 (11, 71, 11, 30, 3) := ⟨_, rfl, by decide, by decide +kernel, tW6 25 rfl rfl, rfl, rfl⟩
set_option maxRecDepth 100000 in
theorem pf_X11_16 : a_pf aYY aBB aMX aRR RX11 (11, 74, 11, 35, 3) := ⟨_, rfl, by decide, by decide +kernel, tW6 30 rfl rfl, rfl, rfl⟩
set_option maxRecDepth 100000 in
theorem pf_X11_17 : a_pf aYY aBB aMX aRR RX11 (11, 78, 11, 37, 3) := ⟨_, rfl, by decide, by decide +kernel, tW6 32 rfl rfl, rfl, rfl⟩
set_option maxRecDepth 100000 in
theorem pf_X11_18 : a_pf aYY aBB aMX aRR RX11 (11, 81, 11, 38, 3) := ⟨_, rfl, by decide, by decide +kernel, tW6 33 rfl rfl, rfl, rfl⟩
set_option maxRecDepth 100000 in
theorem pf_X11_19 : a_pf aYY aBB aMX aRR RX11 (11, 84, 11, 39, 3) := ⟨_, rfl, by decide, by decide +kernel, tW6 34 rfl rfl, rfl, rfl⟩
set_option maxRecDepth 100000 in
theorem pf_X11_20 : a_pf aYY aBB aMX aRR RX11 (11, 87, 11, 40, 3) := ⟨_, rfl, by decide, by decide +kernel, tW6 35 rfl rfl, rfl, rfl⟩
set_option maxRecDepth 100000 in
theorem pf_X11_21 : a_pf aYY aBB aMX aRR RX11 (11, 90, 11, 41, 3) := ⟨_, rfl, by decide, by decide +kernel, tW6 36 rfl rfl, rfl, rfl⟩
set_option maxRecDepth 100000 in
theorem pf_X11_22 : a_pf aYY aBB aMX aRR RX11 (11, 93, 11, 42, 3) := ⟨_, rfl, by decide, by decide +kernel, tW6 37 rfl rfl, rfl, rfl⟩
set_option maxRecDepth 100000 in
theorem pf_X11_23 : a_pf aYY aBB aMX aRR RX11 (11, 96, 11, 43, 3) := ⟨_, rfl, by decide, by decide +kernel, tW6 38 rfl rfl, rfl, rfl⟩
set_option maxRecDepth 100000 in
theorem pf_X11_24 : a_pf aYY aBB aMX aRR RX11 (11, 99, 11, 46, 3) := ⟨_, rfl, by decide, by decide +kernel, tW6 41 rfl rfl, rfl, rfl⟩
set_option maxRecDepth 100000 in
theorem pf_X11_25 : a_pf aYY aBB aMX aRR RX11 (11, 102, 11, 47, 3) := ⟨_, rfl, by decide, by decide +kernel, tW6 42 rfl rfl, rfl, rfl⟩
set_option maxRecDepth 100000 in
theorem pf_X11_26 : a_pf aYY aBB aMX aRR RX11 (11, 105, 11, 48, 3) := ⟨_, rfl, by decide, by decide +kernel, tW6 43 rfl rfl, rfl, rfl⟩
set_option maxRecDepth 100000 in
theorem pf_X11_27 : a_pf aYY aBB aMX aRR RX11 (11, 108, 11, 50, 3) := ⟨_, rfl, by decide, by decide +kernel, tW6 45 rfl rfl, rfl, rfl⟩
set_option maxRecDepth 100000 in
theorem pf_X11_28 : a_pf aYY aBB aMX aRR RX11 (11, 111, 11, 51, 3) := ⟨_, rfl, by decide, by decide +kernel, tW6 46 rfl rfl, rfl, rfl⟩
set_option maxRecDepth 100000 in
theorem pf_X11_29 : a_pf aYY aBB aMX aRR RX11 (11, 114, 11, 52, 3) := ⟨_, rfl, by decide, by decide +kernel, tW6 47 rfl rfl, rfl, rfl⟩
set_option maxRecDepth 100000 in
theorem pf_X11_30 : a_pf aYY aBB aMX aRR RX11 (11, 117, 11, 53, 3) := ⟨_, rfl, by decide, by decide +kernel, tW6 48 rfl rfl, rfl, rfl⟩
set_option maxRecDepth 100000 in
theorem pf_X11_31 : a_pf aYY aBB aMX aRR RX11 (11, 120, 11, 54, 3) := ⟨_, rfl, by decide, by decide +kernel, tW6 49 rfl rfl, rfl, rfl⟩
set_option maxRecDepth 100000 in
theorem pf_X11_32 : a_pf aYY aBB aMX aRR RX11 (11, 123, 11, 57, 3) := ⟨_, rfl, by decide, by decide +kernel, tW6 52 rfl rfl, rfl, rfl⟩
set_option maxRecDepth 100000 in
theorem pf_X11_33 : a_pf aYY aBB aMX aRR RX11 (11, 126, 11, 59, 3) := ⟨_, rfl, by decide, by decide +kernel, tW6 54 rfl rfl, rfl, rfl⟩
set_option maxRecDepth 100000 in
theorem pf_X11_34 : a_pf aYY aBB aMX aRR RX11 (11, 129, 11, 60, 3) := ⟨_, rfl, by decide, by decide +kernel, tW6 55 rfl rfl, rfl, rfl⟩
set_option maxRecDepth 100000 in
theorem pf_X11_35 : a_pf aYY aBB aMX aRR RX11 (1, 13, 11, 3, 3) := ⟨_, rfl, by decide, by decide +kernel, tW5 238 rfl rfl⟩
set_option maxRecDepth 100000 in
theorem pf_X11_36 : a_pf aYY aBB aMX aRR RX11 (2, 135, 11, 1, 0) := ⟨_, rfl, by decide, by decide +kernel, tW5 236 rfl rfl, rfl⟩
set_option maxRecDepth 100000 in
theorem pf_X11_37 : a_pf aYY aBB aMX aRR RX11 (1, 138, 11, 36, 1) := ⟨_, rfl, by decide, by decide +kernel, tW6 31 rfl rfl⟩
set_option maxRecDepth 100000 in
theorem pf_X11_38 : a_pf aYY aBB aMX aRR RX11 (2, 138, 11, 36, 1) := ⟨_, rfl, by decide, by decide +kernel, tW6 31 rfl rfl, rfl⟩
set_option maxRecDepth 100000 in
theorem pf_X11_39 : a_pf aYY aBB aMX aRR RX11 (1, 7, 11, 2, 3) := ⟨_, rfl, by decide, by decide +kernel, tW5 237 rfl rfl⟩
set_option maxRecDepth 100000 in
theorem pf_X11_40 : a_pf aYY aBB aMX aRR RX11 (8, 142, 148, 211, 1) := ⟨fun _ => ⟨ca_Mo_was, tW6 214 rfl rfl, tW6 216 rfl rfl, by decide, by decide +kernel, _, rfl, sW 54 rfl rfl⟩, (fun h => absurd h (by decide)), (fun h => absurd h (by decide)), (fun h => absurd h (by decide)), by decide⟩
set_option maxRecDepth 100000 in
theorem pf_X11_41 : a_pf aYY aBB aMX aRR RX11 (2, 132, 11, 0, 0) := ⟨_, rfl, by decide, by decide +kernel, tW5 235 rfl rfl, rfl⟩
set_option maxRecDepth 100000 in
theorem pf_X11_42 : a_pf aYY aBB aMX aRR RX11 (10, 146, 145, 300, 1) := ⟨fun _ => ⟨ca_Mo_in, Or.inl (tW6 186 rfl rfl), tW6 187 rfl rfl, by decide +kernel⟩, (fun h => absurd h (by decide)), (fun h => absurd h (by decide)), (fun h => absurd h (by decide)), (fun h => absurd h (by decide)), (fun h => absurd h (by decide)), (fun h => absurd h (by decide)), by decide⟩
set_option maxRecDepth 100000 in
theorem pf_X11_43 : a_pf aYY aBB aMX aRR RX11 (8, 150, 147, 211, 1) := ⟨fun _ => ⟨ca_Mo_tell, tW6 189 rfl rfl, tW6 191 rfl rfl, by decide, by decide +kernel, _, rfl, sW 51 rfl rfl⟩, (fun h => absurd h (by decide)), (fun h => absurd h (by decide)), (fun h => absurd h (by decide)), by decide⟩
set_option maxRecDepth 100000 in
theorem pf_X11_44 : a_pf aYY aBB aMX aRR RX11 (1, 16, 11, 4, 3) := ⟨_, rfl, by decide, by decide +kernel, tW5 239 rfl rfl⟩
set_option maxRecDepth 100000 in
theorem pf_X11_45 : a_pf aYY aBB aMX aRR RX11 (1, 19, 11, 5, 3) := ⟨_, rfl, by decide, by decide +kernel, tW6 0 rfl rfl⟩
set_option maxRecDepth 100000 in
theorem pf_X11_46 : a_pf aYY aBB aMX aRR RX11 (8, 155, 152, 211, 1) := ⟨fun _ => ⟨ca_Mo_isFigure, tW6 206 rfl rfl, tW6 208 rfl rfl, by decide, by decide +kernel, _, rfl, sW 52 rfl rfl⟩, (fun h => absurd h (by decide)), (fun h => absurd h (by decide)), (fun h => absurd h (by decide)), by decide⟩
set_option maxRecDepth 100000 in
theorem pf_X11_47 : a_pf aYY aBB aMX aRR RX11 (8, 159, 155, 411, 1) := ⟨fun _ => ⟨ca_Mo_placeOf, tW7 7 rfl rfl, tW7 9 rfl rfl, by decide, by decide +kernel, _, rfl, sW 56 rfl rfl⟩, (fun h => absurd h (by decide)), (fun h => absurd h (by decide)), (fun h => absurd h (by decide)), by decide⟩
set_option maxRecDepth 100000 in
theorem pf_X11_48 : a_pf aYY aBB aMX aRR RX11 (8, 163, 154, 211, 1) := ⟨fun _ => ⟨ca_Mo_term, tW7 23 rfl rfl, tW7 25 rfl rfl, by decide, by decide +kernel, _, rfl, sW 59 rfl rfl⟩, (fun h => absurd h (by decide)), (fun h => absurd h (by decide)), (fun h => absurd h (by decide)), by decide⟩
set_option maxRecDepth 100000 in
theorem pf_X11_49 : a_pf aYY aBB aMX aRR RX11 (8, 168, 149, 311, 1) := ⟨fun _ => ⟨ca_Mo_change, tW6 210 rfl rfl, tW6 212 rfl rfl, by decide, by decide +kernel, _, rfl, sW 53 rfl rfl⟩, (fun h => absurd h (by decide)), (fun h => absurd h (by decide)), (fun h => absurd h (by decide)), by decide⟩
set_option maxRecDepth 100000 in
theorem pf_X11_50 : a_pf aYY aBB aMX aRR RX11 (10, 182, 160, 200, 1) := ⟨fun _ => ⟨ca_Mo_isTerm, Or.inl (tW6 222 rfl rfl), tW6 223 rfl rfl, by decide +kernel⟩, (fun h => absurd h (by decide)), (fun h => absurd h (by decide)), (fun h => absurd h (by decide)), (fun h => absurd h (by decide)), (fun h => absurd h (by decide)), (fun h => absurd h (by decide)), by decide⟩
set_option maxRecDepth 100000 in
theorem pf_X11_51 : a_pf aYY aBB aMX aRR RX11 (10, 186, 153, 100, 1) := ⟨fun _ => ⟨ca_Mo_isBeat, Or.inl (tW6 234 rfl rfl), tW6 235 rfl rfl, by decide +kernel⟩, (fun h => absurd h (by decide)), (fun h => absurd h (by decide)), (fun h => absurd h (by decide)), (fun h => absurd h (by decide)), (fun h => absurd h (by decide)), (fun h => absurd h (by decide)), by decide⟩
set_option maxRecDepth 100000 in
theorem pf_X11_52 : a_pf aYY aBB aMX aRR RX11 (8, 191, 162, 711, 0) := ⟨fun _ => ⟨ca_Mo_put, tW6 239 rfl rfl, tW7 1 rfl rfl, by decide, by decide +kernel, _, rfl, sW 55 rfl rfl⟩, (fun h => absurd h (by decide)), (fun h => absurd h (by decide)), (fun h => absurd h (by decide)), by decide⟩
set_option maxRecDepth 100000 in
theorem pf_X11_53 : a_pf aYY aBB aMX aRR RX11 (8, 195, 156, 311, 1) := ⟨fun _ => ⟨ca_Mo_isOn, tW7 15 rfl rfl, tW7 17 rfl rfl, by decide, by decide +kernel, _, rfl, sW 57 rfl rfl⟩, (fun h => absurd h (by decide)), (fun h => absurd h (by decide)), (fun h => absurd h (by decide)), by decide⟩
set_option maxRecDepth 100000 in
theorem pf_X11_54 : a_pf aYY aBB aMX aRR RX11 (8, 198, 157, 311, 1) := ⟨fun _ => ⟨ca_Mo_deepOf, tW7 19 rfl rfl, tW7 21 rfl rfl, by decide, by decide +kernel, _, rfl, sW 58 rfl rfl⟩, (fun h => absurd h (by decide)), (fun h => absurd h (by decide)), (fun h => absurd h (by decide)), by decide⟩
set_option maxRecDepth 100000 in
theorem pf_X11_55 : a_pf aYY aBB aMX aRR RX11 (1, 201, 11, 8, 0) := ⟨_, rfl, by decide, by decide +kernel, tW6 3 rfl rfl⟩
set_option maxRecDepth 100000 in
theorem pf_X11_56 : a_pf aYY aBB aMX aRR RX11 (2, 201, 11, 8, 0) := ⟨_, rfl, by decide, by decide +kernel, tW6 3 rfl rfl, rfl⟩
set_option maxRecDepth 100000 in
theorem pf_X11_57 : a_pf aYY aBB aMX aRR RX11 (1, 23, 11, 7, 3) := ⟨_, rfl, by decide, by decide +kernel, tW6 2 rfl rfl⟩
set_option maxRecDepth 100000 in
theorem pf_X11_58 : a_pf aYY aBB aMX aRR RX11 (10, 204, 166, 100, 1) := ⟨fun _ => ⟨ca_Mo_bits, Or.inl (tW7 31 rfl rfl), tW7 32 rfl rfl, by decide +kernel⟩, (fun h => absurd h (by decide)), (fun h => absurd h (by decide)), (fun h => absurd h (by decide)), (fun h => absurd h (by decide)), (fun h => absurd h (by decide)), (fun h => absurd h (by decide)), by decide⟩
set_option maxRecDepth 100000 in
theorem pf_X11_59 : a_pf aYY aBB aMX aRR RX11 (2, 207, 11, 6, 0) := ⟨_, rfl, by decide, by decide +kernel, tW6 1 rfl rfl, rfl⟩
set_option maxRecDepth 100000 in
theorem pf_X11_60 : a_pf aYY aBB aMX aRR RX11 (1, 207, 11, 6, 0) := ⟨_, rfl, by decide, by decide +kernel, tW6 1 rfl rfl⟩
set_option maxRecDepth 100000 in
theorem pf_X11_61 : a_pf aYY aBB aMX aRR RX11 (8, 212, 171, 211, 0) := ⟨fun _ => ⟨ca_Mo_four, tW7 51 rfl rfl, tW7 53 rfl rfl, by decide, by decide +kernel, _, rfl, sW 60 rfl rfl⟩, (fun h => absurd h (by decide)), (fun h => absurd h (by decide)), (fun h => absurd h (by decide)), by decide⟩
set_option maxRecDepth 100000 in
theorem pf_X11_62 : a_pf aYY aBB aMX aRR RX11 (2, 216, 11, 10, 0) := ⟨_, rfl, by decide, by decide +kernel, tW6 5 rfl rfl, rfl⟩
set_option maxRecDepth 100000 in
theorem pf_X11_63 : a_pf aYY aBB aMX aRR RX11 (2, 219, 11, 14, 1) := ⟨_, rfl, by decide, by decide +kernel, tW6 9 rfl rfl, rfl⟩
set_option maxRecDepth 100000 in
theorem pf_X11_64 : a_pf aYY aBB aMX aRR RX11 (8, 222, 177, 111, 0) := ⟨fun _ => ⟨ca_Mo_next, tW7 71 rfl rfl, tW7 73 rfl rfl, by decide, by decide +kernel, _, rfl, sW 62 rfl rfl⟩, (fun h => absurd h (by decide)), (fun h => absurd h (by decide)), (fun h => absurd h (by decide)), by decide⟩
set_option maxRecDepth 100000 in
theorem pf_X11_65 : a_pf aYY aBB aMX aRR RX11 (1, 216, 11, 10, 0) := ⟨_, rfl, by decide, by decide +kernel, tW6 5 rfl rfl⟩
set_option maxRecDepth 100000 in
theorem pf_X11_66 : a_pf aYY aBB aMX aRR RX11 (2, 225, 11, 9, 0) := ⟨_, rfl, by decide, by decide +kernel, tW6 4 rfl rfl, rfl⟩
set_option maxRecDepth 100000 in
theorem pf_X11_67 : a_pf aYY aBB aMX aRR RX11 (1, 225, 11, 9, 0) := ⟨_, rfl, by decide, by decide +kernel, tW6 4 rfl rfl⟩
set_option maxRecDepth 100000 in
theorem pf_X11_68 : a_pf aYY aBB aMX aRR RX11 (2, 228, 11, 12, 2) := ⟨_, rfl, by decide, by decide +kernel, tW6 7 rfl rfl, rfl⟩
set_option maxRecDepth 100000 in
theorem pf_X11_69 : a_pf aYY aBB aMX aRR RX11 (10, 232, 174, 100, 1) := ⟨fun _ => ⟨ca_Mo_isSmall, Or.inl (tW7 75 rfl rfl), tW7 76 rfl rfl, by decide +kernel⟩, (fun h => absurd h (by decide)), (fun h => absurd h (by decide)), (fun h => absurd h (by decide)), (fun h => absurd h (by decide)), (fun h => absurd h (by decide)), (fun h => absurd h (by decide)), by decide⟩
set_option maxRecDepth 100000 in
theorem pf_X11_70 : a_pf aYY aBB aMX aRR RX11 (10, 235, 175, 100, 1) := ⟨fun _ => ⟨ca_Mo_isDigit, Or.inl (tW7 78 rfl rfl), tW7 79 rfl rfl, by decide +kernel⟩, (fun h => absurd h (by decide)), (fun h => absurd h (by decide)), (fun h => absurd h (by decide)), (fun h => absurd h (by decide)), (fun h => absurd h (by decide)), (fun h => absurd h (by decide)), by decide⟩
set_option maxRecDepth 100000 in
theorem pf_X11_71 : a_pf aYY aBB aMX aRR RX11 (2, 238, 11, 11, 0) := ⟨_, rfl, by decide, by decide +kernel, tW6 6 rfl rfl, rfl⟩
set_option maxRecDepth 100000 in
theorem pf_X11_72 : a_pf aYY aBB aMX aRR RX11 (1, 238, 11, 11, 0) := ⟨_, rfl, by decide, by decide +kernel, tW6 6 rfl rfl⟩
set_option maxRecDepth 100000 in
theorem pf_X11_73 : a_pf aYY aBB aMX aRR RX11 (1, 228, 11, 12, 2) := ⟨_, rfl, by decide, by decide +kernel, tW6 7 rfl rfl⟩
set_option maxRecDepth 100000 in
theorem pf_X11_74 : a_pf aYY aBB aMX aRR RX11 (1, 219, 11, 14, 1) := ⟨_, rfl, by decide, by decide +kernel, tW6 9 rfl rfl⟩
set_option maxRecDepth 100000 in
theorem pf_X11_75 : a_pf aYY aBB aMX aRR RX11 (8, 251, 180, 211, 0) := ⟨fun _ => ⟨ca_Mo_must, tW7 97 rfl rfl, tW7 99 rfl rfl, by decide, by decide +kernel, _, rfl, sW 65 rfl rfl⟩, (fun h => absurd h (by decide)), (fun h => absurd h (by decide)), (fun h => absurd h (by decide)), by decide⟩
set_option maxRecDepth 100000 in
theorem pf_X11_76 : a_pf aYY aBB aMX aRR RX11 (1, 26, 11, 13, 0) := ⟨_, rfl, by decide, by decide +kernel, tW6 8 rfl rfl⟩
set_option maxRecDepth 100000 in
theorem pf_X11_77 : a_pf aYY aBB aMX aRR RX11 (1, 33, 11, 18, 3) := ⟨_, rfl, by decide, by decide +kernel, tW6 13 rfl rfl⟩
set_option maxRecDepth 100000 in
theorem pf_X11_78 : a_pf aYY aBB aMX aRR RX11 (1, 255, 11, 17, 0) := ⟨_, rfl, by decide, by decide +kernel, tW6 12 rfl rfl⟩
set_option maxRecDepth 100000 in
theorem pf_X11_79 : a_pf aYY aBB aMX aRR RX11 (1, 36, 11, 19, 3) := ⟨_, rfl, by decide, by decide +kernel, tW6 14 rfl rfl⟩
set_option maxRecDepth 100000 in
theorem pf_X11_80 : a_pf aYY aBB aMX aRR RX11 (2, 255, 11, 17, 0) := ⟨_, rfl, by decide, by decide +kernel, tW6 12 rfl rfl, rfl⟩
set_option maxRecDepth 100000 in
theorem pf_X11_81 : a_pf aYY aBB aMX aRR RX11 (1, 39, 11, 21, 3) := ⟨_, rfl, by decide, by decide +kernel, tW6 16 rfl rfl⟩
set_option maxRecDepth 100000 in
theorem pf_X11_82 : a_pf aYY aBB aMX aRR RX11 (1, 258, 11, 23, 0) := ⟨_, rfl, by decide, by decide +kernel, tW6 18 rfl rfl⟩
set_option maxRecDepth 100000 in
theorem pf_X11_83 : a_pf aYY aBB aMX aRR RX11 (1, 42, 11, 22, 3) := ⟨_, rfl, by decide, by decide +kernel, tW6 17 rfl rfl⟩
set_option maxRecDepth 100000 in
theorem pf_X11_84 : a_pf aYY aBB aMX aRR RX11 (2, 258, 11, 23, 0) := ⟨_, rfl, by decide, by decide +kernel, tW6 18 rfl rfl, rfl⟩
set_option maxRecDepth 100000 in
theorem pf_X11_85 : a_pf aYY aBB aMX aRR RX11 (10, 261, 185, 100, 1) := ⟨fun _ => ⟨ca_Mo_binds, Or.inl (tW7 155 rfl rfl), tW7 156 rfl rfl, by decide +kernel⟩, (fun h => absurd h (by decide)), (fun h => absurd h (by decide)), (fun h => absurd h (by decide)), (fun h => absurd h (by decide)), (fun h => absurd h (by decide)), (fun h => absurd h (by decide)), by decide⟩
set_option maxRecDepth 100000 in
theorem pf_X11_86 : a_pf aYY aBB aMX aRR RX11 (8, 264, 183, 311, 0) := ⟨fun _ => ⟨ca_Mo_emit, tW7 147 rfl rfl, tW7 149 rfl rfl, by decide, by decide +kernel, _, rfl, sW 76 rfl rfl⟩, (fun h => absurd h (by decide)), (fun h => absurd h (by decide)), (fun h => absurd h (by decide)), by decide⟩
set_option maxRecDepth 100000 in
theorem pf_X11_87 : a_pf aYY aBB aMX aRR RX11 (1, 61, 11, 25, 3) := ⟨_, rfl, by decide, by decide +kernel, tW6 20 rfl rfl⟩
set_option maxRecDepth 100000 in
theorem pf_X11_88 : a_pf aYY aBB aMX aRR RX11 (8, 274, 178, 211, 1) := ⟨fun _ => ⟨ca_Mo_isWord, tW7 90 rfl rfl, tW7 92 rfl rfl, by decide, by decide +kernel, _, rfl, sW 64 rfl rfl⟩, (fun h => absurd h (by decide)), (fun h => absurd h (by decide)), (fun h => absurd h (by decide)), by decide⟩
set_option maxRecDepth 100000 in
theorem pf_X11_89 : a_pf aYY aBB aMX aRR RX11 (1, 278, 11, 24, 0) := ⟨_, rfl, by decide, by decide +kernel, tW6 19 rfl rfl⟩
set_option maxRecDepth 100000 in
theorem pf_X11_90 : a_pf aYY aBB aMX aRR RX11 (2, 278, 11, 24, 0) := ⟨_, rfl, by decide, by decide +kernel, tW6 19 rfl rfl, rfl⟩
set_option maxRecDepth 100000 in
theorem pf_X11_91 : a_pf aYY aBB aMX aRR RX11 (8, 281, 184, 311, 0) := ⟨fun _ => ⟨ca_Mo_push, tW7 126 rfl rfl, tW7 128 rfl rfl, by decide, by decide +kernel, _, rfl, sW 71 rfl rfl⟩, (fun h => absurd h (by decide)), (fun h => absurd h (by decide)), (fun h => absurd h (by decide)), by decide⟩
set_option maxRecDepth 100000 in
theorem pf_X11_92 : a_pf aYY aBB aMX aRR RX11 (1, 284, 11, 20, 0) := ⟨_, rfl, by decide, by decide +kernel, tW6 15 rfl rfl⟩
set_option maxRecDepth 100000 in
theorem pf_X11_93 : a_pf aYY aBB aMX aRR RX11 (2, 284, 11, 20, 0) := ⟨_, rfl, by decide, by decide +kernel, tW6 15 rfl rfl, rfl⟩
set_option maxRecDepth 100000 in
theorem pf_X11_94 : a_pf aYY aBB aMX aRR RX11 (8, 287, 179, 211, 1) := ⟨fun _ => ⟨ca_Mo_isSign, tW7 113 rfl rfl, tW7 115 rfl rfl, by decide, by decide +kernel, _, rfl, sW 68 rfl rfl⟩, (fun h => absurd h (by decide)), (fun h => absurd h (by decide)), (fun h => absurd h (by decide)), by decide⟩
set_option maxRecDepth 100000 in
theorem pf_X11_95 : a_pf aYY aBB aMX aRR RX11 (8, 290, 190, 211, 0) := ⟨fun _ => ⟨ca_Mo_openBracket, tW7 130 rfl rfl, tW7 132 rfl rfl, by decide, by decide +kernel, _, rfl, sW 72 rfl rfl⟩, (fun h => absurd h (by decide)), (fun h => absurd h (by decide)), (fun h => absurd h (by decide)), by decide⟩
set_option maxRecDepth 100000 in
theorem pf_X11_96 : a_pf aYY aBB aMX aRR RX11 (8, 293, 189, 111, 1) := ⟨fun _ => ⟨ca_Mo_partAt, tW7 138 rfl rfl, tW7 140 rfl rfl, by decide, by decide +kernel, _, rfl, sW 74 rfl rfl⟩, (fun h => absurd h (by decide)), (fun h => absurd h (by decide)), (fun h => absurd h (by decide)), by decide⟩
set_option maxRecDepth 100000 in
theorem pf_X11_97 : a_pf aYY aBB aMX aRR RX11 (8, 299, 191, 411, 0) := ⟨fun _ => ⟨ca_Mo_leaf, tW7 143 rfl rfl, tW7 145 rfl rfl, by decide, by decide +kernel, _, rfl, sW 75 rfl rfl⟩, (fun h => absurd h (by decide)), (fun h => absurd h (by decide)), (fun h => absurd h (by decide)), by decide⟩
set_option maxRecDepth 100000 in
theorem pf_X11_98 : a_pf aYY aBB aMX aRR RX11 (8, 305, 192, 111, 1) := ⟨fun _ => ⟨ca_Mo_readPart, tW7 134 rfl rfl, tW7 136 rfl rfl, by decide, by decide +kernel, _, rfl, sW 73 rfl rfl⟩, (fun h => absurd h (by decide)), (fun h => absurd h (by decide)), (fun h => absurd h (by decide)), by decide⟩
set_option maxRecDepth 100000 in
theorem pf_X11_99 : a_pf aYY aBB aMX aRR RX11 (8, 308, 186, 211, 0) := ⟨fun _ => ⟨ca_Mo_settle, tW7 158 rfl rfl, tW7 160 rfl rfl, by decide, by decide +kernel, _, rfl, sW 78 rfl rfl⟩, (fun h => absurd h (by decide)), (fun h => absurd h (by decide)), (fun h => absurd h (by decide)), by decide⟩
set_option maxRecDepth 100000 in
theorem pf_X11_100 : a_pf aYY aBB aMX aRR RX11 (8, 311, 187, 111, 1) := ⟨fun _ => ⟨ca_Mo_inner, tW7 162 rfl rfl, tW7 164 rfl rfl, by decide, by decide +kernel, _, rfl, sW 79 rfl rfl⟩, (fun h => absurd h (by decide)), (fun h => absurd h (by decide)), (fun h => absurd h (by decide)), by decide⟩
set_option maxRecDepth 100000 in
theorem pf_X11_101 : a_pf aYY aBB aMX aRR RX11 (8, 314, 188, 111, 1) := ⟨fun _ => ⟨ca_Mo_isCompared, tW7 166 rfl rfl, tW7 168 rfl rfl, by decide, by decide +kernel, _, rfl, sW 80 rfl rfl⟩, (fun h => absurd h (by decide)), (fun h => absurd h (by decide)), (fun h => absurd h (by decide)), by decide⟩
set_option maxRecDepth 100000 in
theorem pf_X11_102 : a_pf aYY aBB aMX aRR RX11 (8, 322, 193, 111, 1) := ⟨fun _ => ⟨ca_Mo_readPlain, tW7 121 rfl rfl, tW7 123 rfl rfl, by decide, by decide +kernel, _, rfl, sW 70 rfl rfl⟩, (fun h => absurd h (by decide)), (fun h => absurd h (by decide)), (fun h => absurd h (by decide)), by decide⟩
set_option maxRecDepth 100000 in
theorem pf_X11_103 : a_pf aYY aBB aMX aRR RX11 (8, 325, 194, 211, 1) := ⟨fun _ => ⟨ca_Mo_behindSum, tW7 151 rfl rfl, tW7 153 rfl rfl, by decide, by decide +kernel, _, rfl, sW 77 rfl rfl⟩, (fun h => absurd h (by decide)), (fun h => absurd h (by decide)), (fun h => absurd h (by decide)), by decide⟩
set_option maxRecDepth 100000 in
theorem pf_X11_104 : a_pf aYY aBB aMX aRR RX11 (8, 329, 195, 111, 1) := ⟨fun _ => ⟨ca_Mo_behindTest, tW7 173 rfl rfl, tW7 175 rfl rfl, by decide, by decide +kernel, _, rfl, sW 81 rfl rfl⟩, (fun h => absurd h (by decide)), (fun h => absurd h (by decide)), (fun h => absurd h (by decide)), by decide⟩
set_option maxRecDepth 100000 in
theorem pf_X11_105 : a_pf aYY aBB aMX aRR RX11 (8, 332, 181, 311, 1) := ⟨fun _ => ⟨ca_Mo_number, tW7 105 rfl rfl, tW7 107 rfl rfl, by decide, by decide +kernel, _, rfl, sW 67 rfl rfl⟩, (fun h => absurd h (by decide)), (fun h => absurd h (by decide)), (fun h => absurd h (by decide)), by decide⟩
set_option maxRecDepth 100000 in
theorem pf_X11_106 : a_pf aYY aBB aMX aRR RX11 (1, 344, 11, 27, 0) := ⟨_, rfl, by decide, by decide +kernel, tW6 22 rfl rfl⟩
set_option maxRecDepth 100000 in
theorem pf_X11_107 : a_pf aYY aBB aMX aRR RX11 (1, 65, 11, 26, 3) := ⟨_, rfl, by decide, by decide +kernel, tW6 21 rfl rfl⟩
set_option maxRecDepth 100000 in
theorem pf_X11_108 : a_pf aYY aBB aMX aRR RX11 (2, 344, 11, 27, 0) := ⟨_, rfl, by decide, by decide +kernel, tW6 22 rfl rfl, rfl⟩
set_option maxRecDepth 100000 in
theorem pf_X11_109 : a_pf aYY aBB aMX aRR RX11 (1, 353, 11, 28, 0) := ⟨_, rfl, by decide, by decide +kernel, tW6 23 rfl rfl⟩
set_option maxRecDepth 100000 in
theorem pf_X11_110 : a_pf aYY aBB aMX aRR RX11 (2, 353, 11, 28, 0) := ⟨_, rfl, by decide, by decide +kernel, tW6 23 rfl rfl, rfl⟩
set_option maxRecDepth 100000 in
theorem pf_X11_111 : a_pf aYY aBB aMX aRR RX11 (8, 356, 197, 111, 0) := ⟨fun _ => ⟨ca_Mo_readBeat, tW7 101 rfl rfl, tW7 103 rfl rfl, by decide, by decide +kernel, _, rfl, sW 66 rfl rfl⟩, (fun h => absurd h (by decide)), (fun h => absurd h (by decide)), (fun h => absurd h (by decide)), by decide⟩
set_option maxRecDepth 100000 in
theorem pf_X11_112 : a_pf aYY aBB aMX aRR RX11 (1, 359, 11, 15, 0) := ⟨_, rfl, by decide, by decide +kernel, tW6 10 rfl rfl⟩
set_option maxRecDepth 100000 in
theorem pf_X11_113 : a_pf aYY aBB aMX aRR RX11 (1, 30, 11, 16, 3) := ⟨_, rfl, by decide, by decide +kernel, tW6 11 rfl rfl⟩
set_option maxRecDepth 100000 in
theorem pf_X11_114 : a_pf aYY aBB aMX aRR RX11 (2, 359, 11, 15, 0) := ⟨_, rfl, by decide, by decide +kernel, tW6 10 rfl rfl, rfl⟩
set_option maxRecDepth 100000 in
theorem pf_X11_115 : a_pf aYY aBB aMX aRR RX11 (8, 362, 196, 211, 0) := ⟨fun _ => ⟨ca_Mo_readExpression, tW7 117 rfl rfl, tW7 119 rfl rfl, by decide, by decide +kernel, _, rfl, sW 69 rfl rfl⟩, (fun h => absurd h (by decide)), (fun h => absurd h (by decide)), (fun h => absurd h (by decide)), by decide⟩
set_option maxRecDepth 100000 in
theorem pf_X11_116 : a_pf aYY aBB aMX aRR RX11 (8, 367, 176, 111, 0) := ⟨fun _ => ⟨ca_Mo_begin, tW7 67 rfl rfl, tW7 69 rfl rfl, by decide, by decide +kernel, _, rfl, sW 61 rfl rfl⟩, (fun h => absurd h (by decide)), (fun h => absurd h (by decide)), (fun h => absurd h (by decide)), by decide⟩
set_option maxRecDepth 100000 in
theorem pf_X11_117 : a_pf aYY aBB aMX aRR RX11 (8, 370, 198, 111, 0) := ⟨fun _ => ⟨ca_Mo_readClause, tW7 86 rfl rfl, tW7 88 rfl rfl, by decide, by decide +kernel, _, rfl, sW 63 rfl rfl⟩, (fun h => absurd h (by decide)), (fun h => absurd h (by decide)), (fun h => absurd h (by decide)), by decide⟩
set_option maxRecDepth 100000 in
theorem pf_X11_118 : a_pf aYY aBB aMX aRR RX11 (2, 373, 11, 31, 1) := ⟨_, rfl, by decide, by decide +kernel, tW6 26 rfl rfl, rfl⟩
set_option maxRecDepth 100000 in
theorem pf_X11_119 : a_pf aYY aBB aMX aRR RX11 (1, 373, 11, 31, 1) := ⟨_, rfl, by decide, by decide +kernel, tW6 26 rfl rfl⟩
set_option maxRecDepth 100000 in
theorem pf_X11_120 : a_pf aYY aBB aMX aRR RX11 (1, 71, 11, 30, 3) := ⟨_, rfl, by decide, by decide +kernel, tW6 25 rfl rfl⟩
set_option maxRecDepth 100000 in
theorem pf_X11_121 : a_pf aYY aBB aMX aRR RX11 (1, 68, 11, 29, 3) := ⟨_, rfl, by decide, by decide +kernel, tW6 24 rfl rfl⟩
set_option maxRecDepth 100000 in
theorem pf_X11_122 : a_pf aYY aBB aMX aRR RX11 (8, 376, 200, 411, 2) := ⟨fun _ => ⟨ca_Mo_reckon, tW7 232 rfl rfl, tW7 234 rfl rfl, by decide, by decide +kernel, _, rfl, sW 89 rfl rfl⟩, (fun h => absurd h (by decide)), (fun h => absurd h (by decide)), (fun h => absurd h (by decide)), by decide⟩
set_option maxRecDepth 100000 in
theorem pf_X11_123 : a_pf aYY aBB aMX aRR RX11 (2, 384, 11, 32, 2) := ⟨_, rfl, by decide, by decide +kernel, tW6 27 rfl rfl, rfl⟩
set_option maxRecDepth 100000 in
theorem pf_X11_124 : a_pf aYY aBB aMX aRR RX11 (8, 387, 201, 311, 0) := ⟨fun _ => ⟨ca_Mo_reckonAll, tW7 228 rfl rfl, tW7 230 rfl rfl, by decide, by decide +kernel, _, rfl, sW 88 rfl rfl⟩, (fun h => absurd h (by decide)), (fun h => absurd h (by decide)), (fun h => absurd h (by decide)), by decide⟩
set_option maxRecDepth 100000 in
theorem pf_X11_125 : a_pf aYY aBB aMX aRR RX11 (1, 384, 11, 32, 2) := ⟨_, rfl, by decide, by decide +kernel, tW6 27 rfl rfl⟩
set_option maxRecDepth 100000 in
theorem pf_X11_126 : a_pf aYY aBB aMX aRR RX11 (2, 390, 11, 33, 2) := ⟨_, rfl, by decide, by decide +kernel, tW6 28 rfl rfl, rfl⟩
set_option maxRecDepth 100000 in
theorem pf_X11_127 : a_pf aYY aBB aMX aRR RX11 (2, 393, 11, 34, 0) := ⟨_, rfl, by decide, by decide +kernel, tW6 29 rfl rfl, rfl⟩
set_option maxRecDepth 100000 in
theorem pf_X11_128 : a_pf aYY aBB aMX aRR RX11 (1, 393, 11, 34, 0) := ⟨_, rfl, by decide, by decide +kernel, tW6 29 rfl rfl⟩
set_option maxRecDepth 100000 in
theorem pf_X11_129 : a_pf aYY aBB aMX aRR RX11 (8, 396, 202, 211, 1) := ⟨fun _ => ⟨ca_Mo_isSo, tW7 224 rfl rfl, tW7 226 rfl rfl, by decide, by decide +kernel, _, rfl, sW 87 rfl rfl⟩, (fun h => absurd h (by decide)), (fun h => absurd h (by decide)), (fun h => absurd h (by decide)), by decide⟩
set_option maxRecDepth 100000 in
theorem pf_X11_130 : a_pf aYY aBB aMX aRR RX11 (1, 390, 11, 33, 2) := ⟨_, rfl, by decide, by decide +kernel, tW6 28 rfl rfl⟩
set_option maxRecDepth 100000 in
theorem pf_X11_131 : a_pf aYY aBB aMX aRR RX11 (10, 399, 146, 200, 1) := ⟨fun _ => ⟨ca_Mo_is, Or.inl (tW7 192 rfl rfl), tW7 193 rfl rfl, by decide +kernel⟩, (fun h => absurd h (by decide)), (fun h => absurd h (by decide)), (fun h => absurd h (by decide)), (fun h => absurd h (by decide)), (fun h => absurd h (by decide)), (fun h => absurd h (by decide)), by decide⟩
set_option maxRecDepth 100000 in
theorem pf_X11_132 : a_pf aYY aBB aMX aRR RX11 (8, 402, 204, 411, 1) := ⟨fun _ => ⟨ca_Mo_shadowRow, tW7 188 rfl rfl, tW7 190 rfl rfl, by decide, by decide +kernel, _, rfl, sW 83 rfl rfl⟩, (fun h => absurd h (by decide)), (fun h => absurd h (by decide)), (fun h => absurd h (by decide)), by decide⟩
set_option maxRecDepth 100000 in
theorem pf_X11_133 : a_pf aYY aBB aMX aRR RX11 (8, 405, 205, 311, 1) := ⟨fun _ => ⟨ca_Mo_allRow, tW7 184 rfl rfl, tW7 186 rfl rfl, by decide, by decide +kernel, _, rfl, sW 82 rfl rfl⟩, (fun h => absurd h (by decide)), (fun h => absurd h (by decide)), (fun h => absurd h (by decide)), by decide⟩
set_option maxRecDepth 100000 in
theorem pf_X11_134 : a_pf aYY aBB aMX aRR RX11 (8, 408, 203, 811, 1) := ⟨fun _ => ⟨ca_Mo_tells, tW7 220 rfl rfl, tW7 222 rfl rfl, by decide, by decide +kernel, _, rfl, sW 86 rfl rfl⟩, (fun h => absurd h (by decide)), (fun h => absurd h (by decide)), (fun h => absurd h (by decide)), by decide⟩
set_option maxRecDepth 100000 in
theorem pf_X11_135 : a_pf aYY aBB aMX aRR RX11 (8, 412, 212, 311, 1) := ⟨fun _ => ⟨ca_Mo_isStill, tW7 238 rfl rfl, tW8 0 rfl rfl, by decide, by decide +kernel, _, rfl, sW 90 rfl rfl⟩, (fun h => absurd h (by decide)), (fun h => absurd h (by decide)), (fun h => absurd h (by decide)), by decide⟩
set_option maxRecDepth 100000 in
theorem pf_X11_136 : a_pf aYY aBB aMX aRR RX11 (8, 415, 211, 411, 1) := ⟨fun _ => ⟨ca_Mo_isNear, tW8 2 rfl rfl, tW8 4 rfl rfl, by decide, by decide +kernel, _, rfl, sW 91 rfl rfl⟩, (fun h => absurd h (by decide)), (fun h => absurd h (by decide)), (fun h => absurd h (by decide)), by decide⟩
set_option maxRecDepth 100000 in
theorem pf_X11_137 : a_pf aYY aBB aMX aRR RX11 (8, 421, 213, 211, 1) := ⟨fun _ => ⟨ca_Mo_onBits, tW7 212 rfl rfl, tW7 214 rfl rfl, by decide, by decide +kernel, _, rfl, sW 84 rfl rfl⟩, (fun h => absurd h (by decide)), (fun h => absurd h (by decide)), (fun h => absurd h (by decide)), by decide⟩
set_option maxRecDepth 100000 in
theorem pf_X11_138 : a_pf aYY aBB aMX aRR RX11 (8, 424, 210, 411, 1) := ⟨fun _ => ⟨ca_Mo_canHold, tW7 216 rfl rfl, tW7 218 rfl rfl, by decide, by decide +kernel, _, rfl, sW 85 rfl rfl⟩, (fun h => absurd h (by decide)), (fun h => absurd h (by decide)), (fun h => absurd h (by decide)), by decide⟩
set_option maxRecDepth 100000 in
theorem pf_X11_139 : a_pf aYY aBB aMX aRR RX11 (1, 74, 11, 35, 3) := ⟨_, rfl, by decide, by decide +kernel, tW6 30 rfl rfl⟩
set_option maxRecDepth 100000 in
theorem pf_X11_140 : a_pf aYY aBB aMX aRR RX11 (10, 427, 216, 200, 1) := ⟨fun _ => ⟨ca_Mo_holderIn, Or.inl (tW8 22 rfl rfl), tW8 23 rfl rfl, by decide +kernel⟩, (fun h => absurd h (by decide)), (fun h => absurd h (by decide)), (fun h => absurd h (by decide)), (fun h => absurd h (by decide)), (fun h => absurd h (by decide)), (fun h => absurd h (by decide)), by decide⟩
set_option maxRecDepth 100000 in
theorem pf_X11_141 : a_pf aYY aBB aMX aRR RX11 (8, 430, 215, 311, 0) := ⟨fun _ => ⟨ca_Mo_findCan, tW8 14 rfl rfl, tW8 16 rfl rfl, by decide, by decide +kernel, _, rfl, sW 93 rfl rfl⟩, (fun h => absurd h (by decide)), (fun h => absurd h (by decide)), (fun h => absurd h (by decide)), by decide⟩
set_option maxRecDepth 100000 in
theorem pf_X11_142 : a_pf aYY aBB aMX aRR RX11 (8, 433, 217, 411, 1) := ⟨fun _ => ⟨ca_Mo_isHolding, tW8 18 rfl rfl, tW8 20 rfl rfl, by decide, by decide +kernel, _, rfl, sW 94 rfl rfl⟩, (fun h => absurd h (by decide)), (fun h => absurd h (by decide)), (fun h => absurd h (by decide)), by decide⟩
set_option maxRecDepth 100000 in
theorem pf_X11_143 : a_pf aYY aBB aMX aRR RX11 (8, 436, 218, 411, 1) := ⟨fun _ => ⟨ca_Mo_holdingsOf, tW8 10 rfl rfl, tW8 12 rfl rfl, by decide, by decide +kernel, _, rfl, sW 92 rfl rfl⟩, (fun h => absurd h (by decide)), (fun h => absurd h (by decide)), (fun h => absurd h (by decide)), by decide⟩
set_option maxRecDepth 100000 in
theorem pf_X11_144 : a_pf aYY aBB aMX aRR RX11 (8, 439, 221, 211, 0) := ⟨fun _ => ⟨ca_Mo_reckonBeat, tW8 33 rfl rfl, tW8 35 rfl rfl, by decide, by decide +kernel, _, rfl, sW 96 rfl rfl⟩, (fun h => absurd h (by decide)), (fun h => absurd h (by decide)), (fun h => absurd h (by decide)), by decide⟩
set_option maxRecDepth 100000 in
theorem pf_X11_145 : a_pf aYY aBB aMX aRR RX11 (2, 443, 11, 44, 0) := ⟨_, rfl, by decide, by decide +kernel, tW6 39 rfl rfl, rfl⟩
set_option maxRecDepth 100000 in
theorem pf_X11_146 : a_pf aYY aBB aMX aRR RX11 (1, 78, 11, 37, 3) := ⟨_, rfl, by decide, by decide +kernel, tW6 32 rfl rfl⟩
set_option maxRecDepth 100000 in
theorem pf_X11_147 : a_pf aYY aBB aMX aRR RX11 (1, 443, 11, 44, 0) := ⟨_, rfl, by decide, by decide +kernel, tW6 39 rfl rfl⟩
set_option maxRecDepth 100000 in
theorem pf_X11_148 : a_pf aYY aBB aMX aRR RX11 (1, 81, 11, 38, 3) := ⟨_, rfl, by decide, by decide +kernel, tW6 33 rfl rfl⟩
set_option maxRecDepth 100000 in
theorem pf_X11_149 : a_pf aYY aBB aMX aRR RX11 (2, 447, 11, 45, 0) := ⟨_, rfl, by decide, by decide +kernel, tW6 40 rfl rfl, rfl⟩
set_option maxRecDepth 100000 in
theorem pf_X11_150 : a_pf aYY aBB aMX aRR RX11 (8, 450, 224, 111, 0) := ⟨fun _ => ⟨ca_Mo_findFirst, tW8 43 rfl rfl, tW8 45 rfl rfl, by decide, by decide +kernel, _, rfl, sW 98 rfl rfl⟩, (fun h => absurd h (by decide)), (fun h => absurd h (by decide)), (fun h => absurd h (by decide)), by decide⟩
set_option maxRecDepth 100000 in
theorem pf_X11_151 : a_pf aYY aBB aMX aRR RX11 (1, 84, 11, 39, 3) := ⟨_, rfl, by decide, by decide +kernel, tW6 34 rfl rfl⟩
set_option maxRecDepth 100000 in
theorem pf_X11_152 : a_pf aYY aBB aMX aRR RX11 (1, 87, 11, 40, 3) := ⟨_, rfl, by decide, by decide +kernel, tW6 35 rfl rfl⟩
set_option maxRecDepth 100000 in
theorem pf_X11_153 : a_pf aYY aBB aMX aRR RX11 (8, 453, 222, 511, 0) := ⟨fun _ => ⟨ca_Mo_backFigure, tW8 37 rfl rfl, tW8 39 rfl rfl, by decide, by decide +kernel, _, rfl, sW 97 rfl rfl⟩, (fun h => absurd h (by decide)), (fun h => absurd h (by decide)), (fun h => absurd h (by decide)), by decide⟩
set_option maxRecDepth 100000 in
theorem pf_X11_154 : a_pf aYY aBB aMX aRR RX11 (1, 96, 11, 43, 3) := ⟨_, rfl, by decide, by decide +kernel, tW6 38 rfl rfl⟩
set_option maxRecDepth 100000 in
theorem pf_X11_155 : a_pf aYY aBB aMX aRR RX11 (1, 90, 11, 41, 3) := ⟨_, rfl, by decide, by decide +kernel, tW6 36 rfl rfl⟩
set_option maxRecDepth 100000 in
theorem pf_X11_156 : a_pf aYY aBB aMX aRR RX11 (1, 93, 11, 42, 3) := ⟨_, rfl, by decide, by decide +kernel, tW6 37 rfl rfl⟩
set_option maxRecDepth 100000 in
theorem pf_X11_157 : a_pf aYY aBB aMX aRR RX11 (8, 457, 223, 411, 1) := ⟨fun _ => ⟨ca_Mo_passedBetween, tW8 47 rfl rfl, tW8 49 rfl rfl, by decide, by decide +kernel, _, rfl, sW 99 rfl rfl⟩, (fun h => absurd h (by decide)), (fun h => absurd h (by decide)), (fun h => absurd h (by decide)), by decide⟩
set_option maxRecDepth 100000 in
theorem pf_X11_158 : a_pf aYY aBB aMX aRR RX11 (1, 99, 11, 46, 3) := ⟨_, rfl, by decide, by decide +kernel, tW6 41 rfl rfl⟩
set_option maxRecDepth 100000 in
theorem pf_X11_159 : a_pf aYY aBB aMX aRR RX11 (8, 460, 220, 111, 0) := ⟨fun _ => ⟨ca_Mo_findLeast, tW8 29 rfl rfl, tW8 31 rfl rfl, by decide, by decide +kernel, _, rfl, sW 95 rfl rfl⟩, (fun h => absurd h (by decide)), (fun h => absurd h (by decide)), (fun h => absurd h (by decide)), by decide⟩
set_option maxRecDepth 100000 in
theorem pf_X11_160 : a_pf aYY aBB aMX aRR RX11 (1, 447, 11, 45, 0) := ⟨_, rfl, by decide, by decide +kernel, tW6 40 rfl rfl⟩
set_option maxRecDepth 100000 in
theorem pf_X11_161 : a_pf aYY aBB aMX aRR RX11 (2, 463, 11, 49, 0) := ⟨_, rfl, by decide, by decide +kernel, tW6 44 rfl rfl, rfl⟩
set_option maxRecDepth 100000 in
theorem pf_X11_162 : a_pf aYY aBB aMX aRR RX11 (1, 463, 11, 49, 0) := ⟨_, rfl, by decide, by decide +kernel, tW6 44 rfl rfl⟩
set_option maxRecDepth 100000 in
theorem pf_X11_163 : a_pf aYY aBB aMX aRR RX11 (1, 102, 11, 47, 3) := ⟨_, rfl, by decide, by decide +kernel, tW6 42 rfl rfl⟩
set_option maxRecDepth 100000 in
theorem pf_X11_164 : a_pf aYY aBB aMX aRR RX11 (1, 105, 11, 48, 3) := ⟨_, rfl, by decide, by decide +kernel, tW6 43 rfl rfl⟩
set_option maxRecDepth 100000 in
theorem pf_X11_165 : a_pf aYY aBB aMX aRR RX11 (1, 114, 11, 52, 3) := ⟨_, rfl, by decide, by decide +kernel, tW6 47 rfl rfl⟩
set_option maxRecDepth 100000 in
theorem pf_X11_166 : a_pf aYY aBB aMX aRR RX11 (1, 117, 11, 53, 3) := ⟨_, rfl, by decide, by decide +kernel, tW6 48 rfl rfl⟩
set_option maxRecDepth 100000 in
theorem pf_X11_167 : a_pf aYY aBB aMX aRR RX11 (8, 466, 232, 511, 0) := ⟨fun _ => ⟨ca_Mo_tryPlace, tW8 87 rfl rfl, tW8 89 rfl rfl, by decide, by decide +kernel, _, rfl, sW 104 rfl rfl⟩, (fun h => absurd h (by decide)), (fun h => absurd h (by decide)), (fun h => absurd h (by decide)), by decide⟩
set_option maxRecDepth 100000 in
theorem pf_X11_168 : a_pf aYY aBB aMX aRR RX11 (1, 120, 11, 54, 3) := ⟨_, rfl, by decide, by decide +kernel, tW6 49 rfl rfl⟩
set_option maxRecDepth 100000 in
theorem pf_X11_169 : a_pf aYY aBB aMX aRR RX11 (1, 108, 11, 50, 3) := ⟨_, rfl, by decide, by decide +kernel, tW6 45 rfl rfl⟩
set_option maxRecDepth 100000 in
theorem pf_X11_170 : a_pf aYY aBB aMX aRR RX11 (1, 111, 11, 51, 3) := ⟨_, rfl, by decide, by decide +kernel, tW6 46 rfl rfl⟩
set_option maxRecDepth 100000 in
theorem pf_X11_171 : a_pf aYY aBB aMX aRR RX11 (2, 470, 11, 55, 0) := ⟨_, rfl, by decide, by decide +kernel, tW6 50 rfl rfl, rfl⟩
set_option maxRecDepth 100000 in
theorem pf_X11_172 : a_pf aYY aBB aMX aRR RX11 (2, 473, 11, 58, 2) := ⟨_, rfl, by decide, by decide +kernel, tW6 53 rfl rfl, rfl⟩
set_option maxRecDepth 100000 in
theorem pf_X11_173 : a_pf aYY aBB aMX aRR RX11 (2, 476, 11, 56, 0) := ⟨_, rfl, by decide, by decide +kernel, tW6 51 rfl rfl, rfl⟩
set_option maxRecDepth 100000 in
theorem pf_X11_174 : a_pf aYY aBB aMX aRR RX11 (8, 479, 231, 211, 0) := ⟨fun _ => ⟨ca_Mo_findShadows, tW8 83 rfl rfl, tW8 85 rfl rfl, by decide, by decide +kernel, _, rfl, sW 103 rfl rfl⟩, (fun h => absurd h (by decide)), (fun h => absurd h (by decide)), (fun h => absurd h (by decide)), by decide⟩
set_option maxRecDepth 100000 in
theorem pf_X11_175 : a_pf aYY aBB aMX aRR RX11 (8, 482, 235, 311, 0) := ⟨fun _ => ⟨ca_Mo_goOver, tW8 91 rfl rfl, tW8 93 rfl rfl, by decide, by decide +kernel, _, rfl, sW 105 rfl rfl⟩, (fun h => absurd h (by decide)), (fun h => absurd h (by decide)), (fun h => absurd h (by decide)), by decide⟩
set_option maxRecDepth 100000 in
theorem pf_X11_176 : a_pf aYY aBB aMX aRR RX11 (1, 126, 11, 59, 3) := ⟨_, rfl, by decide, by decide +kernel, tW6 54 rfl rfl⟩
set_option maxRecDepth 100000 in
theorem pf_X11_177 : a_pf aYY aBB aMX aRR RX11 (8, 485, 234, 311, 2) := ⟨fun _ => ⟨ca_Mo_maskAt, tW8 95 rfl rfl, tW8 97 rfl rfl, by decide, by decide +kernel, _, rfl, sW 106 rfl rfl⟩, (fun h => absurd h (by decide)), (fun h => absurd h (by decide)), (fun h => absurd h (by decide)), by decide⟩
set_option maxRecDepth 100000 in
theorem pf_X11_178 : a_pf aYY aBB aMX aRR RX11 (8, 489, 236, 611, 0) := ⟨fun _ => ⟨ca_Mo_take, tW8 99 rfl rfl, tW8 101 rfl rfl, by decide, by decide +kernel, _, rfl, sW 107 rfl rfl⟩, (fun h => absurd h (by decide)), (fun h => absurd h (by decide)), (fun h => absurd h (by decide)), by decide⟩
set_option maxRecDepth 100000 in
theorem pf_X11_179 : a_pf aYY aBB aMX aRR RX11 (1, 473, 11, 58, 2) := ⟨_, rfl, by decide, by decide +kernel, tW6 53 rfl rfl⟩
set_option maxRecDepth 100000 in
theorem pf_X11_180 : a_pf aYY aBB aMX aRR RX11 (1, 470, 11, 55, 0) := ⟨_, rfl, by decide, by decide +kernel, tW6 50 rfl rfl⟩
set_option maxRecDepth 100000 in
theorem pf_X11_181 : a_pf aYY aBB aMX aRR RX11 (1, 123, 11, 57, 3) := ⟨_, rfl, by decide, by decide +kernel, tW6 52 rfl rfl⟩
set_option maxRecDepth 100000 in
theorem pf_X11_182 : a_pf aYY aBB aMX aRR RX11 (8, 493, 237, 211, 1) := ⟨fun _ => ⟨ca_Mo_isCast, tW8 71 rfl rfl, tW8 73 rfl rfl, by decide, by decide +kernel, _, rfl, sW 100 rfl rfl⟩, (fun h => absurd h (by decide)), (fun h => absurd h (by decide)), (fun h => absurd h (by decide)), by decide⟩
set_option maxRecDepth 100000 in
theorem pf_X11_183 : a_pf aYY aBB aMX aRR RX11 (8, 496, 230, 111, 1) := ⟨fun _ => ⟨ca_Mo_findCells, tW8 75 rfl rfl, tW8 77 rfl rfl, by decide, by decide +kernel, _, rfl, sW 101 rfl rfl⟩, (fun h => absurd h (by decide)), (fun h => absurd h (by decide)), (fun h => absurd h (by decide)), by decide⟩
set_option maxRecDepth 100000 in
theorem pf_X11_184 : a_pf aYY aBB aMX aRR RX11 (8, 499, 233, 211, 0) := ⟨fun _ => ⟨ca_Mo_findMade, tW8 79 rfl rfl, tW8 81 rfl rfl, by decide, by decide +kernel, _, rfl, sW 102 rfl rfl⟩, (fun h => absurd h (by decide)), (fun h => absurd h (by decide)), (fun h => absurd h (by decide)), by decide⟩
set_option maxRecDepth 100000 in
theorem pf_X11_185 : a_pf aYY aBB aMX aRR RX11 (1, 476, 11, 56, 0) := ⟨_, rfl, by decide, by decide +kernel, tW6 51 rfl rfl⟩
set_option maxRecDepth 100000 in
theorem pf_X11_186 : a_pf aYY aBB aMX aRR RX11 (1, 129, 11, 60, 3) := ⟨_, rfl, by decide, by decide +kernel, tW6 55 rfl rfl⟩
set_option maxRecDepth 100000 in
theorem pf_X11_187 : a_pf aYY aBB aMX aRR RX11 (2, 510, 11, 61, 1) := ⟨_, rfl, by decide, by decide +kernel, tW6 56 rfl rfl, rfl⟩
set_option maxRecDepth 100000 in
theorem pf_X11_188 : a_pf aYY aBB aMX aRR RX11 (1, 510, 11, 61, 1) := ⟨_, rfl, by decide, by decide +kernel, tW6 56 rfl rfl⟩
set_option maxRecDepth 100000 in
theorem pf_X11_189 : a_pf aYY aBB aMX aRR RX11 (1, 135, 11, 1, 0) := ⟨_, rfl, by decide, by decide +kernel, tW5 236 rfl rfl⟩
set_option maxRecDepth 100000 in
theorem pa_X11 : ∀ e ∈ po_X11, a_pf aYY aBB aMX aRR RX11 e := List.forall_mem_cons.mpr ⟨pf_X11_0, List.forall_mem_cons.mpr ⟨pf_X11_1, List.forall_mem_cons.mpr ⟨pf_X11_2, List.forall_mem_cons.mpr ⟨pf_X11_3, List.forall_mem_cons.mpr ⟨pf_X11_4, List.forall_mem_cons.mpr ⟨pf_X11_5, List.forall_mem_cons.mpr ⟨pf_X11_6, List.forall_mem_cons.mpr ⟨pf_X11_7, List.forall_mem_cons.mpr ⟨pf_X11_8, List.forall_mem_cons.mpr ⟨pf_X11_9, List.forall_mem_cons.mpr ⟨pf_X11_10, List.forall_mem_cons.mpr ⟨pf_X11_11, List.forall_mem_cons.mpr ⟨pf_X11_12, List.forall_mem_cons.mpr ⟨pf_X11_13, List.forall_mem_cons.mpr ⟨pf_X11_14, List.forall_mem_cons.mpr ⟨pf_X11_15, List.forall_mem_cons.mpr ⟨pf_X11_16, List.forall_mem_cons.mpr ⟨pf_X11_17, List.forall_mem_cons.mpr ⟨pf_X11_18, List.forall_mem_cons.mpr ⟨pf_X11_19, List.forall_mem_cons.mpr ⟨pf_X11_20, List.forall_mem_cons.mpr ⟨pf_X11_21, List.forall_mem_cons.mpr ⟨pf_X11_22, List.forall_mem_cons.mpr ⟨pf_X11_23, List.forall_mem_cons.mpr ⟨pf_X11_24, List.forall_mem_cons.mpr ⟨pf_X11_25, List.forall_mem_cons.mpr ⟨pf_X11_26, List.forall_mem_cons.mpr ⟨pf_X11_27, List.forall_mem_cons.mpr ⟨pf_X11_28, List.forall_mem_cons.mpr ⟨pf_X11_29, List.forall_mem_cons.mpr ⟨pf_X11_30, List.forall_mem_cons.mpr ⟨pf_X11_31, List.forall_mem_cons.mpr ⟨pf_X11_32, List.forall_mem_cons.mpr ⟨pf_X11_33, List.forall_mem_cons.mpr ⟨pf_X11_34, List.forall_mem_cons.mpr ⟨pf_X11_35, List.forall_mem_cons.mpr ⟨pf_X11_36, List.forall_mem_cons.mpr ⟨pf_X11_37, List.forall_mem_cons.mpr ⟨pf_X11_38, List.forall_mem_cons.mpr ⟨pf_X11_39, List.forall_mem_cons.mpr ⟨pf_X11_40, List.forall_mem_cons.mpr ⟨pf_X11_41, List.forall_mem_cons.mpr ⟨pf_X11_42, List.forall_mem_cons.mpr ⟨pf_X11_43, List.forall_mem_cons.mpr ⟨pf_X11_44, List.forall_mem_cons.mpr ⟨pf_X11_45, List.forall_mem_cons.mpr ⟨pf_X11_46, List.forall_mem_cons.mpr ⟨pf_X11_47, List.forall_mem_cons.mpr ⟨pf_X11_48, List.forall_mem_cons.mpr ⟨pf_X11_49, List.forall_mem_cons.mpr ⟨pf_X11_50, List.forall_mem_cons.mpr ⟨pf_X11_51, List.forall_mem_cons.mpr ⟨pf_X11_52, List.forall_mem_cons.mpr ⟨pf_X11_53, List.forall_mem_cons.mpr ⟨pf_X11_54, List.forall_mem_cons.mpr ⟨pf_X11_55, List.forall_mem_cons.mpr ⟨pf_X11_56, List.forall_mem_cons.mpr ⟨pf_X11_57, List.forall_mem_cons.mpr ⟨pf_X11_58, List.forall_mem_cons.mpr ⟨pf_X11_59, List.forall_mem_cons.mpr ⟨pf_X11_60, List.forall_mem_cons.mpr ⟨pf_X11_61, List.forall_mem_cons.mpr ⟨pf_X11_62, List.forall_mem_cons.mpr ⟨pf_X11_63, List.forall_mem_cons.mpr ⟨pf_X11_64, List.forall_mem_cons.mpr ⟨pf_X11_65, List.forall_mem_cons.mpr ⟨pf_X11_66, List.forall_mem_cons.mpr ⟨pf_X11_67, List.forall_mem_cons.mpr ⟨pf_X11_68, List.forall_mem_cons.mpr ⟨pf_X11_69, List.forall_mem_cons.mpr ⟨pf_X11_70, List.forall_mem_cons.mpr ⟨pf_X11_71, List.forall_mem_cons.mpr ⟨pf_X11_72, List.forall_mem_cons.mpr ⟨pf_X11_73, List.forall_mem_cons.mpr ⟨pf_X11_74, List.forall_mem_cons.mpr ⟨pf_X11_75, List.forall_mem_cons.mpr ⟨pf_X11_76, List.forall_mem_cons.mpr ⟨pf_X11_77, List.forall_mem_cons.mpr ⟨pf_X11_78, List.forall_mem_cons.mpr ⟨pf_X11_79, List.forall_mem_cons.mpr ⟨pf_X11_80, List.forall_mem_cons.mpr ⟨pf_X11_81, List.forall_mem_cons.mpr ⟨pf_X11_82, List.forall_mem_cons.mpr ⟨pf_X11_83, List.forall_mem_cons.mpr ⟨pf_X11_84, List.forall_mem_cons.mpr ⟨pf_X11_85, List.forall_mem_cons.mpr ⟨pf_X11_86, List.forall_mem_cons.mpr ⟨pf_X11_87, List.forall_mem_cons.mpr ⟨pf_X11_88, List.forall_mem_cons.mpr ⟨pf_X11_89, List.forall_mem_cons.mpr ⟨pf_X11_90, List.forall_mem_cons.mpr ⟨pf_X11_91, List.forall_mem_cons.mpr ⟨pf_X11_92, List.forall_mem_cons.mpr ⟨pf_X11_93, List.forall_mem_cons.mpr ⟨pf_X11_94, List.forall_mem_cons.mpr ⟨pf_X11_95, List.forall_mem_cons.mpr ⟨pf_X11_96, List.forall_mem_cons.mpr ⟨pf_X11_97, List.forall_mem_cons.mpr ⟨pf_X11_98, List.forall_mem_cons.mpr ⟨pf_X11_99, List.forall_mem_cons.mpr ⟨pf_X11_100, List.forall_mem_cons.mpr ⟨pf_X11_101, List.forall_mem_cons.mpr ⟨pf_X11_102, List.forall_mem_cons.mpr ⟨pf_X11_103, List.forall_mem_cons.mpr ⟨pf_X11_104, List.forall_mem_cons.mpr ⟨pf_X11_105, List.forall_mem_cons.mpr ⟨pf_X11_106, List.forall_mem_cons.mpr ⟨pf_X11_107, List.forall_mem_cons.mpr ⟨pf_X11_108, List.forall_mem_cons.mpr ⟨pf_X11_109, List.forall_mem_cons.mpr ⟨pf_X11_110, List.forall_mem_cons.mpr ⟨pf_X11_111, List.forall_mem_cons.mpr ⟨pf_X11_112, List.forall_mem_cons.mpr ⟨pf_X11_113, List.forall_mem_cons.mpr ⟨pf_X11_114, List.forall_mem_cons.mpr ⟨pf_X11_115, List.forall_mem_cons.mpr ⟨pf_X11_116, List.forall_mem_cons.mpr ⟨pf_X11_117, List.forall_mem_cons.mpr ⟨pf_X11_118, List.forall_mem_cons.mpr ⟨pf_X11_119, List.forall_mem_cons.mpr ⟨pf_X11_120, List.forall_mem_cons.mpr ⟨pf_X11_121, List.forall_mem_cons.mpr ⟨pf_X11_122, List.forall_mem_cons.mpr ⟨pf_X11_123, List.forall_mem_cons.mpr ⟨pf_X11_124, List.forall_mem_cons.mpr ⟨pf_X11_125, List.forall_mem_cons.mpr ⟨pf_X11_126, List.forall_mem_cons.mpr ⟨pf_X11_127, List.forall_mem_cons.mpr ⟨pf_X11_128, List.forall_mem_cons.mpr ⟨pf_X11_129, List.forall_mem_cons.mpr ⟨pf_X11_130, List.forall_mem_cons.mpr ⟨pf_X11_131, List.forall_mem_cons.mpr ⟨pf_X11_132, List.forall_mem_cons.mpr ⟨pf_X11_133, List.forall_mem_cons.mpr ⟨pf_X11_134, List.forall_mem_cons.mpr ⟨pf_X11_135, List.forall_mem_cons.mpr ⟨pf_X11_136, List.forall_mem_cons.mpr ⟨pf_X11_137, List.forall_mem_cons.mpr ⟨pf_X11_138, List.forall_mem_cons.mpr ⟨pf_X11_139, List.forall_mem_cons.mpr ⟨pf_X11_140, List.forall_mem_cons.mpr ⟨pf_X11_141, List.forall_mem_cons.mpr ⟨pf_X11_142, List.forall_mem_cons.mpr ⟨pf_X11_143, List.forall_mem_cons.mpr ⟨pf_X11_144, List.forall_mem_cons.mpr ⟨pf_X11_145, List.forall_mem_cons.mpr ⟨pf_X11_146, List.forall_mem_cons.mpr ⟨pf_X11_147, List.forall_mem_cons.mpr ⟨pf_X11_148, List.forall_mem_cons.mpr ⟨pf_X11_149, List.forall_mem_cons.mpr ⟨pf_X11_150, List.forall_mem_cons.mpr ⟨pf_X11_151, List.forall_mem_cons.mpr ⟨pf_X11_152, List.forall_mem_cons.mpr ⟨pf_X11_153, List.forall_mem_cons.mpr ⟨pf_X11_154, List.forall_mem_cons.mpr ⟨pf_X11_155, List.forall_mem_cons.mpr ⟨pf_X11_156, List.forall_mem_cons.mpr ⟨pf_X11_157, List.forall_mem_cons.mpr ⟨pf_X11_158, List.forall_mem_cons.mpr ⟨pf_X11_159, List.forall_mem_cons.mpr ⟨pf_X11_160, List.forall_mem_cons.mpr ⟨pf_X11_161, List.forall_mem_cons.mpr ⟨pf_X11_162, List.forall_mem_cons.mpr ⟨pf_X11_163, List.forall_mem_cons.mpr ⟨pf_X11_164, List.forall_mem_cons.mpr ⟨pf_X11_165, List.forall_mem_cons.mpr ⟨pf_X11_166, List.forall_mem_cons.mpr ⟨pf_X11_167, List.forall_mem_cons.mpr ⟨pf_X11_168, List.forall_mem_cons.mpr ⟨pf_X11_169, List.forall_mem_cons.mpr ⟨pf_X11_170, List.forall_mem_cons.mpr ⟨pf_X11_171, List.forall_mem_cons.mpr ⟨pf_X11_172, List.forall_mem_cons.mpr ⟨pf_X11_173, List.forall_mem_cons.mpr ⟨pf_X11_174, List.forall_mem_cons.mpr ⟨pf_X11_175, List.forall_mem_cons.mpr ⟨pf_X11_176, List.forall_mem_cons.mpr ⟨pf_X11_177, List.forall_mem_cons.mpr ⟨pf_X11_178, List.forall_mem_cons.mpr ⟨pf_X11_179, List.forall_mem_cons.mpr ⟨pf_X11_180, List.forall_mem_cons.mpr ⟨pf_X11_181, List.forall_mem_cons.mpr ⟨pf_X11_182, List.forall_mem_cons.mpr ⟨pf_X11_183, List.forall_mem_cons.mpr ⟨pf_X11_184, List.forall_mem_cons.mpr ⟨pf_X11_185, List.forall_mem_cons.mpr ⟨pf_X11_186, List.forall_mem_cons.mpr ⟨pf_X11_187, List.forall_mem_cons.mpr ⟨pf_X11_188, List.forall_mem_cons.mpr ⟨pf_X11_189, (fun _ h => absurd h List.not_mem_nil)⟩⟩⟩⟩⟩⟩⟩⟩⟩⟩⟩⟩⟩⟩⟩⟩⟩⟩⟩⟩⟩⟩⟩⟩⟩⟩⟩⟩⟩⟩⟩⟩⟩⟩⟩⟩⟩⟩⟩⟩⟩⟩⟩⟩⟩⟩⟩⟩⟩⟩⟩⟩⟩⟩⟩⟩⟩⟩⟩⟩⟩⟩⟩⟩⟩⟩⟩⟩⟩⟩⟩⟩⟩⟩⟩⟩⟩⟩⟩⟩⟩⟩⟩⟩⟩⟩⟩⟩⟩⟩⟩⟩⟩⟩⟩⟩⟩⟩⟩⟩⟩⟩⟩⟩⟩⟩⟩⟩⟩⟩⟩⟩⟩⟩⟩⟩⟩⟩⟩⟩⟩⟩⟩⟩⟩⟩⟩⟩⟩⟩⟩⟩⟩⟩⟩⟩⟩⟩⟩⟩⟩⟩⟩⟩⟩⟩⟩⟩⟩⟩⟩⟩⟩⟩⟩⟩⟩⟩⟩⟩⟩⟩⟩⟩⟩⟩⟩⟩⟩⟩⟩⟩⟩⟩⟩⟩⟩⟩⟩⟩⟩⟩⟩⟩⟩⟩⟩⟩⟩⟩
def kI_X11 : List (Nat × Int32) := [(77, 49152), (442, 1000000), (446, 1000000000)]
set_option maxRecDepth 100000 in
theorem ka_X11 : ∀ e ∈ kI_X11, Jvm.Cond.constant RX11 e.1 e.2 ∈ aW := List.forall_mem_cons.mpr ⟨tW5 234 rfl rfl, List.forall_mem_cons.mpr ⟨tW8 41 rfl rfl, List.forall_mem_cons.mpr ⟨tW8 42 rfl rfl, (fun _ h => absurd h List.not_mem_nil)⟩⟩⟩
def kL_X11 : List (Nat × Int64) := [(45, 211015237), (47, 70708), (49, 274088114), (51, 16392370), (53, 24), (55, 25), (57, 136368), (59, 658804083), (153, 11), (166, 2), (172, 32), (174, 16), (176, 3), (178, 6), (180, 31), (189, 15), (210, 7), (241, 96), (243, (-1)), (245, 1000000), (247, 10), (249, 48), (268, 20), (270, 23), (272, 26), (297, 1000), (303, 14836), (318, 1476), (320, 498), (336, 655), (338, 5), (340, 15558), (342, 52), (347, 525939), (349, 635184), (351, 67155), (365, 294), (380, (-1000000000)), (382, 1000000000), (419, 63), (502, 1103), (504, 12345), (506, 1000003), (508, 100)]
set_option maxRecDepth 100000 in
theorem kb_X11 : ∀ e ∈ kL_X11, Jvm.Cond.constantLong RX11 e.1 e.2 ∈ aW := List.forall_mem_cons.mpr ⟨tW5 226 rfl rfl, List.forall_mem_cons.mpr ⟨tW5 227 rfl rfl, List.forall_mem_cons.mpr ⟨tW5 228 rfl rfl, List.forall_mem_cons.mpr ⟨tW5 229 rfl rfl, List.forall_mem_cons.mpr ⟨tW5 230 rfl rfl, List.forall_mem_cons.mpr ⟨tW5 231 rfl rfl, List.forall_mem_cons.mpr ⟨tW5 232 rfl rfl, List.forall_mem_cons.mpr ⟨tW5 233 rfl rfl, List.forall_mem_cons.mpr ⟨tW6 237 rfl rfl, List.forall_mem_cons.mpr ⟨tW6 201 rfl rfl, List.forall_mem_cons.mpr ⟨tW6 225 rfl rfl, List.forall_mem_cons.mpr ⟨tW6 226 rfl rfl, List.forall_mem_cons.mpr ⟨tW6 227 rfl rfl, List.forall_mem_cons.mpr ⟨tW6 228 rfl rfl, List.forall_mem_cons.mpr ⟨tW6 229 rfl rfl, List.forall_mem_cons.mpr ⟨tW6 238 rfl rfl, List.forall_mem_cons.mpr ⟨tW7 42 rfl rfl, List.forall_mem_cons.mpr ⟨tW7 81 rfl rfl, List.forall_mem_cons.mpr ⟨tW7 82 rfl rfl, List.forall_mem_cons.mpr ⟨tW7 83 rfl rfl, List.forall_mem_cons.mpr ⟨tW7 84 rfl rfl, List.forall_mem_cons.mpr ⟨tW7 85 rfl rfl, List.forall_mem_cons.mpr ⟨tW7 170 rfl rfl, List.forall_mem_cons.mpr ⟨tW7 171 rfl rfl, List.forall_mem_cons.mpr ⟨tW7 172 rfl rfl, List.forall_mem_cons.mpr ⟨tW7 142 rfl rfl, List.forall_mem_cons.mpr ⟨tW7 125 rfl rfl, List.forall_mem_cons.mpr ⟨tW7 177 rfl rfl, List.forall_mem_cons.mpr ⟨tW7 178 rfl rfl, List.forall_mem_cons.mpr ⟨tW7 109 rfl rfl, List.forall_mem_cons.mpr ⟨tW7 110 rfl rfl, List.forall_mem_cons.mpr ⟨tW7 111 rfl rfl, List.forall_mem_cons.mpr ⟨tW7 112 rfl rfl, List.forall_mem_cons.mpr ⟨tW7 94 rfl rfl, List.forall_mem_cons.mpr ⟨tW7 95 rfl rfl, List.forall_mem_cons.mpr ⟨tW7 96 rfl rfl, List.forall_mem_cons.mpr ⟨tW7 179 rfl rfl, List.forall_mem_cons.mpr ⟨tW7 236 rfl rfl, List.forall_mem_cons.mpr ⟨tW7 237 rfl rfl, List.forall_mem_cons.mpr ⟨tW7 211 rfl rfl, List.forall_mem_cons.mpr ⟨tW8 111 rfl rfl, List.forall_mem_cons.mpr ⟨tW8 112 rfl rfl, List.forall_mem_cons.mpr ⟨tW8 113 rfl rfl, List.forall_mem_cons.mpr ⟨tW8 114 rfl rfl, (fun _ h => absurd h List.not_mem_nil)⟩⟩⟩⟩⟩⟩⟩⟩⟩⟩⟩⟩⟩⟩⟩⟩⟩⟩⟩⟩⟩⟩⟩⟩⟩⟩⟩⟩⟩⟩⟩⟩⟩⟩⟩⟩⟩⟩⟩⟩⟩⟩⟩⟩
def po_J6 : List (Nat × Nat × Nat × Nat × Nat) := []
set_option maxRecDepth 100000 in
theorem pa_J6 : ∀ e ∈ po_J6, a_pf aYY aBB aMX aRR RJ6 e := (fun _ h => absurd h List.not_mem_nil)
def kI_J6 : List (Nat × Int32) := [(264, 65536), (265, 1431655765), (266, 858993459), (267, 252645135)]
set_option maxRecDepth 100000 in
theorem ka_J6 : ∀ e ∈ kI_J6, Jvm.Cond.constant RJ6 e.1 e.2 ∈ aW := List.forall_mem_cons.mpr ⟨tW5 106 rfl rfl, List.forall_mem_cons.mpr ⟨tW3 69 rfl rfl, List.forall_mem_cons.mpr ⟨tW3 70 rfl rfl, List.forall_mem_cons.mpr ⟨tW3 71 rfl rfl, (fun _ h => absurd h List.not_mem_nil)⟩⟩⟩⟩
def kL_J6 : List (Nat × Int64) := []
set_option maxRecDepth 100000 in
theorem kb_J6 : ∀ e ∈ kL_J6, Jvm.Cond.constantLong RJ6 e.1 e.2 ∈ aW := (fun _ h => absurd h List.not_mem_nil)
def po_J13 : List (Nat × Nat × Nat × Nat × Nat) := [(10, 311, 244, 100, 1)]
set_option maxRecDepth 100000 in
theorem pf_J13_0 : a_pf aYY aBB aMX aRR RJ13 (10, 311, 244, 100, 1) := ⟨fun _ => ⟨ca_J_ntzI, Or.inl (tW5 103 rfl rfl), tW5 104 rfl rfl, by decide +kernel⟩, (fun h => absurd h (by decide)), (fun h => absurd h (by decide)), (fun h => absurd h (by decide)), (fun h => absurd h (by decide)), (fun h => absurd h (by decide)), (fun h => absurd h (by decide)), by decide⟩
set_option maxRecDepth 100000 in
theorem pa_J13 : ∀ e ∈ po_J13, a_pf aYY aBB aMX aRR RJ13 e := List.forall_mem_cons.mpr ⟨pf_J13_0, (fun _ h => absurd h List.not_mem_nil)⟩
def kI_J13 : List (Nat × Int32) := []
set_option maxRecDepth 100000 in
theorem ka_J13 : ∀ e ∈ kI_J13, Jvm.Cond.constant RJ13 e.1 e.2 ∈ aW := (fun _ h => absurd h List.not_mem_nil)
def kL_J13 : List (Nat × Int64) := [(314, 6148914691236517205), (316, 3689348814741910323), (318, 1085102592571150095)]
set_option maxRecDepth 100000 in
theorem kb_J13 : ∀ e ∈ kL_J13, Jvm.Cond.constantLong RJ13 e.1 e.2 ∈ aW := List.forall_mem_cons.mpr ⟨tW5 110 rfl rfl, List.forall_mem_cons.mpr ⟨tW5 111 rfl rfl, List.forall_mem_cons.mpr ⟨tW5 112 rfl rfl, (fun _ h => absurd h List.not_mem_nil)⟩⟩⟩
def po_J7 : List (Nat × Nat × Nat × Nat × Nat) := [(10, 13, 248, 300, 0)]
set_option maxRecDepth 100000 in
theorem pf_J7_0 : a_pf aYY aBB aMX aRR RJ7 (10, 13, 248, 300, 0) := ⟨fun _ => ⟨ca_J_rng, Or.inl (tW3 182 rfl rfl), tW3 183 rfl rfl, by decide +kernel⟩, (fun h => absurd h (by decide)), (fun h => absurd h (by decide)), (fun h => absurd h (by decide)), (fun h => absurd h (by decide)), (fun h => absurd h (by decide)), (fun h => absurd h (by decide)), by decide⟩
set_option maxRecDepth 100000 in
theorem pa_J7 : ∀ e ∈ po_J7, a_pf aYY aBB aMX aRR RJ7 e := List.forall_mem_cons.mpr ⟨pf_J7_0, (fun _ h => absurd h List.not_mem_nil)⟩
def kI_J7 : List (Nat × Int32) := []
set_option maxRecDepth 100000 in
theorem ka_J7 : ∀ e ∈ kI_J7, Jvm.Cond.constant RJ7 e.1 e.2 ∈ aW := (fun _ h => absurd h List.not_mem_nil)
def kL_J7 : List (Nat × Int64) := []
set_option maxRecDepth 100000 in
theorem kb_J7 : ∀ e ∈ kL_J7, Jvm.Cond.constantLong RJ7 e.1 e.2 ∈ aW := (fun _ h => absurd h List.not_mem_nil)
def po_L : List (Nat × Nat × Nat × Nat × Nat) := [(4, 7, 10, 16, 0), (9, 9, 100, 110, 0), (4, 10, 11, 62, 0), (9, 12, 144, 111, 0), (8, 13, 101, 210, 1), (8, 17, 158, 211, 1), (8, 18, 102, 310, 1), (8, 22, 159, 311, 1), (8, 23, 103, 310, 1), (8, 26, 161, 311, 1), (8, 27, 104, 610, 1), (8, 31, 163, 611, 1), (8, 32, 105, 310, 1), (8, 35, 164, 311, 1), (8, 36, 106, 410, 1), (8, 40, 165, 411, 1), (8, 41, 107, 610, 1), (8, 44, 172, 611, 1), (8, 45, 108, 210, 1), (8, 48, 173, 211, 1), (8, 49, 109, 210, 1), (8, 52, 167, 211, 1), (8, 53, 110, 110, 1), (8, 57, 168, 111, 1), (8, 58, 111, 310, 1), (8, 61, 169, 311, 1), (8, 62, 112, 110, 1), (8, 65, 199, 111, 1), (8, 66, 113, 110, 1), (8, 69, 182, 111, 1), (8, 70, 114, 410, 1), (8, 73, 206, 411, 1), (8, 74, 115, 410, 1), (8, 77, 207, 411, 1), (8, 78, 116, 410, 1), (8, 81, 208, 411, 1), (8, 82, 117, 410, 1), (8, 85, 214, 411, 1), (8, 86, 118, 210, 1), (8, 89, 219, 211, 1), (8, 90, 119, 210, 1), (8, 93, 225, 211, 1), (8, 94, 120, 310, 1), (8, 97, 226, 311, 1), (8, 98, 121, 210, 1), (8, 101, 227, 211, 1), (8, 102, 122, 110, 1), (8, 105, 228, 111, 1), (8, 106, 123, 210, 1), (8, 109, 229, 211, 1), (8, 110, 124, 310, 1), (8, 113, 238, 311, 1), (8, 114, 125, 410, 1), (8, 117, 239, 411, 1), (8, 118, 126, 210, 1), (8, 121, 170, 211, 1), (8, 122, 127, 210, 1), (8, 125, 209, 211, 1), (8, 126, 128, 210, 1), (8, 129, 240, 211, 1), (8, 130, 129, 210, 1), (8, 133, 241, 211, 1), (8, 134, 130, 210, 1), (8, 137, 150, 211, 1), (8, 138, 131, 210, 1), (8, 141, 151, 211, 1), (8, 142, 132, 210, 1), (8, 145, 242, 211, 1), (8, 146, 133, 110, 1), (8, 149, 243, 111, 1)]
set_option maxRecDepth 100000 in
theorem pf_L_0 : a_pf aYY aBB aMX aRR RL (4, 7, 10, 16, 0) := ⟨_, rfl, rfl, tW1 23 rfl rfl, tW1 24 rfl rfl, tW1 1 rfl rfl⟩
set_option maxRecDepth 100000 in
theorem pf_L_1 : a_pf aYY aBB aMX aRR RL (9, 9, 100, 110, 0) := ⟨fun _ => ⟨ca_Cp_init, rfl, Or.inl (tW1 25 rfl rfl), tW1 26 rfl rfl, rfl, by decide, by decide +kernel, by decide⟩, (fun h => absurd h (by decide)), by decide⟩
set_option maxRecDepth 100000 in
theorem pf_L_2 : a_pf aYY aBB aMX aRR RL (4, 10, 11, 62, 0) := ⟨_, rfl, rfl, tW5 220 rfl rfl, tW5 221 rfl rfl, tW1 11 rfl rfl⟩
set_option maxRecDepth 100000 in
theorem pf_L_3 : a_pf aYY aBB aMX aRR RL (9, 12, 144, 111, 0) := ⟨fun _ => ⟨ca_Mo_init, rfl, Or.inl (tW5 222 rfl rfl), tW5 223 rfl rfl, rfl, by decide, by decide +kernel, by decide⟩, (fun h => absurd h (by decide)), by decide⟩
set_option maxRecDepth 100000 in
theorem pf_L_4 : a_pf aYY aBB aMX aRR RL (8, 13, 101, 210, 1) := ⟨fun _ => ⟨ca_Cp_figure, tW2 205 rfl rfl, tW2 206 rfl rfl, by decide, by decide +kernel, _, rfl, tW2 207 rfl rfl⟩, (fun h => absurd h (by decide)), (fun h => absurd h (by decide)), (fun h => absurd h (by decide)), by decide⟩
set_option maxRecDepth 100000 in
theorem pf_L_5 : a_pf aYY aBB aMX aRR RL (8, 17, 158, 211, 1) := ⟨fun _ => ⟨ca_Mo_figure, tW6 197 rfl rfl, tW6 198 rfl rfl, by decide, by decide +kernel, _, rfl, tW6 199 rfl rfl⟩, (fun h => absurd h (by decide)), (fun h => absurd h (by decide)), (fun h => absurd h (by decide)), by decide⟩
set_option maxRecDepth 100000 in
theorem pf_L_6 : a_pf aYY aBB aMX aRR RL (8, 18, 102, 310, 1) := ⟨fun _ => ⟨ca_Cp_sticks, tW2 225 rfl rfl, tW2 226 rfl rfl, by decide, by decide +kernel, _, rfl, tW2 227 rfl rfl⟩, (fun h => absurd h (by decide)), (fun h => absurd h (by decide)), (fun h => absurd h (by decide)), by decide⟩
set_option maxRecDepth 100000 in
theorem pf_L_7 : a_pf aYY aBB aMX aRR RL (8, 22, 159, 311, 1) := ⟨fun _ => ⟨ca_Mo_sticks, tW6 202 rfl rfl, tW6 203 rfl rfl, by decide, by decide +kernel, _, rfl, tW6 204 rfl rfl⟩, (fun h => absurd h (by decide)), (fun h => absurd h (by decide)), (fun h => absurd h (by decide)), by decide⟩
set_option maxRecDepth 100000 in
theorem pf_L_8 : a_pf aYY aBB aMX aRR RL (8, 23, 103, 310, 1) := ⟨fun _ => ⟨ca_Cp_terms, tW2 233 rfl rfl, tW2 234 rfl rfl, by decide, by decide +kernel, _, rfl, tW2 235 rfl rfl⟩, (fun h => absurd h (by decide)), (fun h => absurd h (by decide)), (fun h => absurd h (by decide)), by decide⟩
set_option maxRecDepth 100000 in
theorem pf_L_9 : a_pf aYY aBB aMX aRR RL (8, 26, 161, 311, 1) := ⟨fun _ => ⟨ca_Mo_terms, tW6 218 rfl rfl, tW6 219 rfl rfl, by decide, by decide +kernel, _, rfl, tW6 220 rfl rfl⟩, (fun h => absurd h (by decide)), (fun h => absurd h (by decide)), (fun h => absurd h (by decide)), by decide⟩
set_option maxRecDepth 100000 in
theorem pf_L_10 : a_pf aYY aBB aMX aRR RL (8, 27, 104, 610, 1) := ⟨fun _ => ⟨ca_Cp_on, tW3 9 rfl rfl, tW3 10 rfl rfl, by decide, by decide +kernel, _, rfl, tW3 11 rfl rfl⟩, (fun h => absurd h (by decide)), (fun h => absurd h (by decide)), (fun h => absurd h (by decide)), by decide⟩
set_option maxRecDepth 100000 in
theorem pf_L_11 : a_pf aYY aBB aMX aRR RL (8, 31, 163, 611, 1) := ⟨fun _ => ⟨ca_Mo_on, tW6 230 rfl rfl, tW6 231 rfl rfl, by decide, by decide +kernel, _, rfl, tW6 232 rfl rfl⟩, (fun h => absurd h (by decide)), (fun h => absurd h (by decide)), (fun h => absurd h (by decide)), by decide⟩
set_option maxRecDepth 100000 in
theorem pf_L_12 : a_pf aYY aBB aMX aRR RL (8, 32, 105, 310, 1) := ⟨fun _ => ⟨ca_Cp_off, tW3 21 rfl rfl, tW3 22 rfl rfl, by decide, by decide +kernel, _, rfl, tW3 23 rfl rfl⟩, (fun h => absurd h (by decide)), (fun h => absurd h (by decide)), (fun h => absurd h (by decide)), by decide⟩
set_option maxRecDepth 100000 in
theorem pf_L_13 : a_pf aYY aBB aMX aRR RL (8, 35, 164, 311, 1) := ⟨fun _ => ⟨ca_Mo_off, tW7 3 rfl rfl, tW7 4 rfl rfl, by decide, by decide +kernel, _, rfl, tW7 5 rfl rfl⟩, (fun h => absurd h (by decide)), (fun h => absurd h (by decide)), (fun h => absurd h (by decide)), by decide⟩
set_option maxRecDepth 100000 in
theorem pf_L_14 : a_pf aYY aBB aMX aRR RL (8, 36, 106, 410, 1) := ⟨fun _ => ⟨ca_Cp_of, tW3 29 rfl rfl, tW3 30 rfl rfl, by decide, by decide +kernel, _, rfl, tW3 31 rfl rfl⟩, (fun h => absurd h (by decide)), (fun h => absurd h (by decide)), (fun h => absurd h (by decide)), by decide⟩
set_option maxRecDepth 100000 in
theorem pf_L_15 : a_pf aYY aBB aMX aRR RL (8, 40, 165, 411, 1) := ⟨fun _ => ⟨ca_Mo_of, tW7 11 rfl rfl, tW7 12 rfl rfl, by decide, by decide +kernel, _, rfl, tW7 13 rfl rfl⟩, (fun h => absurd h (by decide)), (fun h => absurd h (by decide)), (fun h => absurd h (by decide)), by decide⟩
set_option maxRecDepth 100000 in
theorem pf_L_16 : a_pf aYY aBB aMX aRR RL (8, 41, 107, 610, 1) := ⟨fun _ => ⟨ca_Cp_feed, tW3 41 rfl rfl, tW3 42 rfl rfl, by decide, by decide +kernel, _, rfl, tW3 43 rfl rfl⟩, (fun h => absurd h (by decide)), (fun h => absurd h (by decide)), (fun h => absurd h (by decide)), by decide⟩
set_option maxRecDepth 100000 in
theorem pf_L_17 : a_pf aYY aBB aMX aRR RL (8, 44, 172, 611, 1) := ⟨fun _ => ⟨ca_Mo_feed, tW7 47 rfl rfl, tW7 48 rfl rfl, by decide, by decide +kernel, _, rfl, tW7 49 rfl rfl⟩, (fun h => absurd h (by decide)), (fun h => absurd h (by decide)), (fun h => absurd h (by decide)), by decide⟩
set_option maxRecDepth 100000 in
theorem pf_L_18 : a_pf aYY aBB aMX aRR RL (8, 45, 108, 210, 1) := ⟨fun _ => ⟨ca_Cp_end, tW3 49 rfl rfl, tW3 50 rfl rfl, by decide, by decide +kernel, _, rfl, tW3 51 rfl rfl⟩, (fun h => absurd h (by decide)), (fun h => absurd h (by decide)), (fun h => absurd h (by decide)), by decide⟩
set_option maxRecDepth 100000 in
theorem pf_L_19 : a_pf aYY aBB aMX aRR RL (8, 48, 173, 211, 1) := ⟨fun _ => ⟨ca_Mo_end, tW7 55 rfl rfl, tW7 56 rfl rfl, by decide, by decide +kernel, _, rfl, tW7 57 rfl rfl⟩, (fun h => absurd h (by decide)), (fun h => absurd h (by decide)), (fun h => absurd h (by decide)), by decide⟩
set_option maxRecDepth 100000 in
theorem pf_L_20 : a_pf aYY aBB aMX aRR RL (8, 49, 109, 210, 1) := ⟨fun _ => ⟨ca_Cp_row, tW3 53 rfl rfl, tW3 54 rfl rfl, by decide, by decide +kernel, _, rfl, tW3 55 rfl rfl⟩, (fun h => absurd h (by decide)), (fun h => absurd h (by decide)), (fun h => absurd h (by decide)), by decide⟩
set_option maxRecDepth 100000 in
theorem pf_L_21 : a_pf aYY aBB aMX aRR RL (8, 52, 167, 211, 1) := ⟨fun _ => ⟨ca_Mo_row, tW7 27 rfl rfl, tW7 28 rfl rfl, by decide, by decide +kernel, _, rfl, tW7 29 rfl rfl⟩, (fun h => absurd h (by decide)), (fun h => absurd h (by decide)), (fun h => absurd h (by decide)), by decide⟩
set_option maxRecDepth 100000 in
theorem pf_L_22 : a_pf aYY aBB aMX aRR RL (8, 53, 110, 110, 1) := ⟨fun _ => ⟨ca_Cp_torn, tW3 80 rfl rfl, tW3 81 rfl rfl, by decide, by decide +kernel, _, rfl, tW3 82 rfl rfl⟩, (fun h => absurd h (by decide)), (fun h => absurd h (by decide)), (fun h => absurd h (by decide)), by decide⟩
set_option maxRecDepth 100000 in
theorem pf_L_23 : a_pf aYY aBB aMX aRR RL (8, 57, 168, 111, 1) := ⟨fun _ => ⟨ca_Mo_torn, tW7 34 rfl rfl, tW7 35 rfl rfl, by decide, by decide +kernel, _, rfl, tW7 36 rfl rfl⟩, (fun h => absurd h (by decide)), (fun h => absurd h (by decide)), (fun h => absurd h (by decide)), by decide⟩
set_option maxRecDepth 100000 in
theorem pf_L_24 : a_pf aYY aBB aMX aRR RL (8, 58, 111, 310, 1) := ⟨fun _ => ⟨ca_Cp_outline, tW3 84 rfl rfl, tW3 85 rfl rfl, by decide, by decide +kernel, _, rfl, tW3 86 rfl rfl⟩, (fun h => absurd h (by decide)), (fun h => absurd h (by decide)), (fun h => absurd h (by decide)), by decide⟩
set_option maxRecDepth 100000 in
theorem pf_L_25 : a_pf aYY aBB aMX aRR RL (8, 61, 169, 311, 1) := ⟨fun _ => ⟨ca_Mo_outline, tW7 38 rfl rfl, tW7 39 rfl rfl, by decide, by decide +kernel, _, rfl, tW7 40 rfl rfl⟩, (fun h => absurd h (by decide)), (fun h => absurd h (by decide)), (fun h => absurd h (by decide)), by decide⟩
set_option maxRecDepth 100000 in
theorem pf_L_26 : a_pf aYY aBB aMX aRR RL (8, 62, 112, 110, 1) := ⟨fun _ => ⟨ca_Cp_play, tW3 88 rfl rfl, tW3 89 rfl rfl, by decide, by decide +kernel, _, rfl, tW3 90 rfl rfl⟩, (fun h => absurd h (by decide)), (fun h => absurd h (by decide)), (fun h => absurd h (by decide)), by decide⟩
set_option maxRecDepth 100000 in
theorem pf_L_27 : a_pf aYY aBB aMX aRR RL (8, 65, 199, 111, 1) := ⟨fun _ => ⟨ca_Mo_play, tW7 63 rfl rfl, tW7 64 rfl rfl, by decide, by decide +kernel, _, rfl, tW7 65 rfl rfl⟩, (fun h => absurd h (by decide)), (fun h => absurd h (by decide)), (fun h => absurd h (by decide)), by decide⟩
set_option maxRecDepth 100000 in
theorem pf_L_28 : a_pf aYY aBB aMX aRR RL (8, 66, 113, 110, 1) := ⟨fun _ => ⟨ca_Cp_fault, tW4 8 rfl rfl, tW4 9 rfl rfl, by decide, by decide +kernel, _, rfl, tW4 10 rfl rfl⟩, (fun h => absurd h (by decide)), (fun h => absurd h (by decide)), (fun h => absurd h (by decide)), by decide⟩
set_option maxRecDepth 100000 in
theorem pf_L_29 : a_pf aYY aBB aMX aRR RL (8, 69, 182, 111, 1) := ⟨fun _ => ⟨ca_Mo_fault, tW7 59 rfl rfl, tW7 60 rfl rfl, by decide, by decide +kernel, _, rfl, tW7 61 rfl rfl⟩, (fun h => absurd h (by decide)), (fun h => absurd h (by decide)), (fun h => absurd h (by decide)), by decide⟩
set_option maxRecDepth 100000 in
theorem pf_L_30 : a_pf aYY aBB aMX aRR RL (8, 70, 114, 410, 1) := ⟨fun _ => ⟨ca_Cp_shadow, tW4 12 rfl rfl, tW4 13 rfl rfl, by decide, by decide +kernel, _, rfl, tW4 14 rfl rfl⟩, (fun h => absurd h (by decide)), (fun h => absurd h (by decide)), (fun h => absurd h (by decide)), by decide⟩
set_option maxRecDepth 100000 in
theorem pf_L_31 : a_pf aYY aBB aMX aRR RL (8, 73, 206, 411, 1) := ⟨fun _ => ⟨ca_Mo_shadow, tW7 180 rfl rfl, tW7 181 rfl rfl, by decide, by decide +kernel, _, rfl, tW7 182 rfl rfl⟩, (fun h => absurd h (by decide)), (fun h => absurd h (by decide)), (fun h => absurd h (by decide)), by decide⟩
set_option maxRecDepth 100000 in
theorem pf_L_32 : a_pf aYY aBB aMX aRR RL (8, 74, 115, 410, 1) := ⟨fun _ => ⟨ca_Cp_seen, tW4 31 rfl rfl, tW4 32 rfl rfl, by decide, by decide +kernel, _, rfl, tW4 33 rfl rfl⟩, (fun h => absurd h (by decide)), (fun h => absurd h (by decide)), (fun h => absurd h (by decide)), by decide⟩
set_option maxRecDepth 100000 in
theorem pf_L_33 : a_pf aYY aBB aMX aRR RL (8, 77, 207, 411, 1) := ⟨fun _ => ⟨ca_Mo_seen, tW7 195 rfl rfl, tW7 196 rfl rfl, by decide, by decide +kernel, _, rfl, tW7 197 rfl rfl⟩, (fun h => absurd h (by decide)), (fun h => absurd h (by decide)), (fun h => absurd h (by decide)), by decide⟩
set_option maxRecDepth 100000 in
theorem pf_L_34 : a_pf aYY aBB aMX aRR RL (8, 78, 116, 410, 1) := ⟨fun _ => ⟨ca_Cp_common, tW4 48 rfl rfl, tW4 49 rfl rfl, by decide, by decide +kernel, _, rfl, tW4 50 rfl rfl⟩, (fun h => absurd h (by decide)), (fun h => absurd h (by decide)), (fun h => absurd h (by decide)), by decide⟩
set_option maxRecDepth 100000 in
theorem pf_L_35 : a_pf aYY aBB aMX aRR RL (8, 81, 208, 411, 1) := ⟨fun _ => ⟨ca_Mo_common, tW7 199 rfl rfl, tW7 200 rfl rfl, by decide, by decide +kernel, _, rfl, tW7 201 rfl rfl⟩, (fun h => absurd h (by decide)), (fun h => absurd h (by decide)), (fun h => absurd h (by decide)), by decide⟩
set_option maxRecDepth 100000 in
theorem pf_L_36 : a_pf aYY aBB aMX aRR RL (8, 82, 117, 410, 1) := ⟨fun _ => ⟨ca_Cp_holds, tW4 52 rfl rfl, tW4 53 rfl rfl, by decide, by decide +kernel, _, rfl, tW4 54 rfl rfl⟩, (fun h => absurd h (by decide)), (fun h => absurd h (by decide)), (fun h => absurd h (by decide)), by decide⟩
set_option maxRecDepth 100000 in
theorem pf_L_37 : a_pf aYY aBB aMX aRR RL (8, 85, 214, 411, 1) := ⟨fun _ => ⟨ca_Mo_holds, tW7 207 rfl rfl, tW7 208 rfl rfl, by decide, by decide +kernel, _, rfl, tW7 209 rfl rfl⟩, (fun h => absurd h (by decide)), (fun h => absurd h (by decide)), (fun h => absurd h (by decide)), by decide⟩
set_option maxRecDepth 100000 in
theorem pf_L_38 : a_pf aYY aBB aMX aRR RL (8, 86, 118, 210, 1) := ⟨fun _ => ⟨ca_Cp_holdings, tW4 125 rfl rfl, tW4 126 rfl rfl, by decide, by decide +kernel, _, rfl, tW4 127 rfl rfl⟩, (fun h => absurd h (by decide)), (fun h => absurd h (by decide)), (fun h => absurd h (by decide)), by decide⟩
set_option maxRecDepth 100000 in
theorem pf_L_39 : a_pf aYY aBB aMX aRR RL (8, 89, 219, 211, 1) := ⟨fun _ => ⟨ca_Mo_holdings, tW8 6 rfl rfl, tW8 7 rfl rfl, by decide, by decide +kernel, _, rfl, tW8 8 rfl rfl⟩, (fun h => absurd h (by decide)), (fun h => absurd h (by decide)), (fun h => absurd h (by decide)), by decide⟩
set_option maxRecDepth 100000 in
theorem pf_L_40 : a_pf aYY aBB aMX aRR RL (8, 90, 119, 210, 1) := ⟨fun _ => ⟨ca_Cp_least, tW4 137 rfl rfl, tW4 138 rfl rfl, by decide, by decide +kernel, _, rfl, tW4 139 rfl rfl⟩, (fun h => absurd h (by decide)), (fun h => absurd h (by decide)), (fun h => absurd h (by decide)), by decide⟩
set_option maxRecDepth 100000 in
theorem pf_L_41 : a_pf aYY aBB aMX aRR RL (8, 93, 225, 211, 1) := ⟨fun _ => ⟨ca_Mo_least, tW8 25 rfl rfl, tW8 26 rfl rfl, by decide, by decide +kernel, _, rfl, tW8 27 rfl rfl⟩, (fun h => absurd h (by decide)), (fun h => absurd h (by decide)), (fun h => absurd h (by decide)), by decide⟩
set_option maxRecDepth 100000 in
theorem pf_L_42 : a_pf aYY aBB aMX aRR RL (8, 94, 120, 310, 1) := ⟨fun _ => ⟨ca_Cp_holder, tW4 222 rfl rfl, tW4 223 rfl rfl, by decide, by decide +kernel, _, rfl, tW4 224 rfl rfl⟩, (fun h => absurd h (by decide)), (fun h => absurd h (by decide)), (fun h => absurd h (by decide)), by decide⟩
set_option maxRecDepth 100000 in
theorem pf_L_43 : a_pf aYY aBB aMX aRR RL (8, 97, 226, 311, 1) := ⟨fun _ => ⟨ca_Mo_holder, tW8 51 rfl rfl, tW8 52 rfl rfl, by decide, by decide +kernel, _, rfl, tW8 53 rfl rfl⟩, (fun h => absurd h (by decide)), (fun h => absurd h (by decide)), (fun h => absurd h (by decide)), by decide⟩
set_option maxRecDepth 100000 in
theorem pf_L_44 : a_pf aYY aBB aMX aRR RL (8, 98, 121, 210, 1) := ⟨fun _ => ⟨ca_Cp_passed, tW4 231 rfl rfl, tW4 232 rfl rfl, by decide, by decide +kernel, _, rfl, tW4 233 rfl rfl⟩, (fun h => absurd h (by decide)), (fun h => absurd h (by decide)), (fun h => absurd h (by decide)), by decide⟩
set_option maxRecDepth 100000 in
theorem pf_L_45 : a_pf aYY aBB aMX aRR RL (8, 101, 227, 211, 1) := ⟨fun _ => ⟨ca_Mo_passed, tW8 55 rfl rfl, tW8 56 rfl rfl, by decide, by decide +kernel, _, rfl, tW8 57 rfl rfl⟩, (fun h => absurd h (by decide)), (fun h => absurd h (by decide)), (fun h => absurd h (by decide)), by decide⟩
set_option maxRecDepth 100000 in
theorem pf_L_46 : a_pf aYY aBB aMX aRR RL (8, 102, 122, 110, 1) := ⟨fun _ => ⟨ca_Cp_fewest, tW5 0 rfl rfl, tW5 1 rfl rfl, by decide, by decide +kernel, _, rfl, tW5 2 rfl rfl⟩, (fun h => absurd h (by decide)), (fun h => absurd h (by decide)), (fun h => absurd h (by decide)), by decide⟩
set_option maxRecDepth 100000 in
theorem pf_L_47 : a_pf aYY aBB aMX aRR RL (8, 105, 228, 111, 1) := ⟨fun _ => ⟨ca_Mo_fewest, tW8 59 rfl rfl, tW8 60 rfl rfl, by decide, by decide +kernel, _, rfl, tW8 61 rfl rfl⟩, (fun h => absurd h (by decide)), (fun h => absurd h (by decide)), (fun h => absurd h (by decide)), by decide⟩
set_option maxRecDepth 100000 in
theorem pf_L_48 : a_pf aYY aBB aMX aRR RL (8, 106, 123, 210, 1) := ⟨fun _ => ⟨ca_Cp_barred, tW5 5 rfl rfl, tW5 6 rfl rfl, by decide, by decide +kernel, _, rfl, tW5 7 rfl rfl⟩, (fun h => absurd h (by decide)), (fun h => absurd h (by decide)), (fun h => absurd h (by decide)), by decide⟩
set_option maxRecDepth 100000 in
theorem pf_L_49 : a_pf aYY aBB aMX aRR RL (8, 109, 229, 211, 1) := ⟨fun _ => ⟨ca_Mo_barred, tW8 63 rfl rfl, tW8 64 rfl rfl, by decide, by decide +kernel, _, rfl, tW8 65 rfl rfl⟩, (fun h => absurd h (by decide)), (fun h => absurd h (by decide)), (fun h => absurd h (by decide)), by decide⟩
set_option maxRecDepth 100000 in
theorem pf_L_50 : a_pf aYY aBB aMX aRR RL (8, 110, 124, 310, 1) := ⟨fun _ => ⟨ca_Cp_made, tW5 13 rfl rfl, tW5 14 rfl rfl, by decide, by decide +kernel, _, rfl, tW5 15 rfl rfl⟩, (fun h => absurd h (by decide)), (fun h => absurd h (by decide)), (fun h => absurd h (by decide)), by decide⟩
set_option maxRecDepth 100000 in
theorem pf_L_51 : a_pf aYY aBB aMX aRR RL (8, 113, 238, 311, 1) := ⟨fun _ => ⟨ca_Mo_made, tW8 67 rfl rfl, tW8 68 rfl rfl, by decide, by decide +kernel, _, rfl, tW8 69 rfl rfl⟩, (fun h => absurd h (by decide)), (fun h => absurd h (by decide)), (fun h => absurd h (by decide)), by decide⟩
set_option maxRecDepth 100000 in
theorem pf_L_52 : a_pf aYY aBB aMX aRR RL (8, 114, 125, 410, 1) := ⟨fun _ => ⟨ca_Cp_who, tW5 163 rfl rfl, tW5 164 rfl rfl, by decide, by decide +kernel, _, rfl, tW5 165 rfl rfl⟩, (fun h => absurd h (by decide)), (fun h => absurd h (by decide)), (fun h => absurd h (by decide)), by decide⟩
set_option maxRecDepth 100000 in
theorem pf_L_53 : a_pf aYY aBB aMX aRR RL (8, 117, 239, 411, 1) := ⟨fun _ => ⟨ca_Mo_who, tW8 103 rfl rfl, tW8 104 rfl rfl, by decide, by decide +kernel, _, rfl, tW8 105 rfl rfl⟩, (fun h => absurd h (by decide)), (fun h => absurd h (by decide)), (fun h => absurd h (by decide)), by decide⟩
set_option maxRecDepth 100000 in
theorem pf_L_54 : a_pf aYY aBB aMX aRR RL (8, 118, 126, 210, 1) := ⟨fun _ => ⟨ca_Cp_sheet, tW5 171 rfl rfl, tW5 172 rfl rfl, by decide, by decide +kernel, _, rfl, tW5 173 rfl rfl⟩, (fun h => absurd h (by decide)), (fun h => absurd h (by decide)), (fun h => absurd h (by decide)), by decide⟩
set_option maxRecDepth 100000 in
theorem pf_L_55 : a_pf aYY aBB aMX aRR RL (8, 121, 170, 211, 1) := ⟨fun _ => ⟨ca_Mo_sheet, tW7 43 rfl rfl, tW7 44 rfl rfl, by decide, by decide +kernel, _, rfl, tW7 45 rfl rfl⟩, (fun h => absurd h (by decide)), (fun h => absurd h (by decide)), (fun h => absurd h (by decide)), by decide⟩
set_option maxRecDepth 100000 in
theorem pf_L_56 : a_pf aYY aBB aMX aRR RL (8, 122, 127, 210, 1) := ⟨fun _ => ⟨ca_Cp_copy, tW5 175 rfl rfl, tW5 176 rfl rfl, by decide, by decide +kernel, _, rfl, tW5 177 rfl rfl⟩, (fun h => absurd h (by decide)), (fun h => absurd h (by decide)), (fun h => absurd h (by decide)), by decide⟩
set_option maxRecDepth 100000 in
theorem pf_L_57 : a_pf aYY aBB aMX aRR RL (8, 125, 209, 211, 1) := ⟨fun _ => ⟨ca_Mo_copy, tW7 203 rfl rfl, tW7 204 rfl rfl, by decide, by decide +kernel, _, rfl, tW7 205 rfl rfl⟩, (fun h => absurd h (by decide)), (fun h => absurd h (by decide)), (fun h => absurd h (by decide)), by decide⟩
set_option maxRecDepth 100000 in
theorem pf_L_58 : a_pf aYY aBB aMX aRR RL (8, 126, 128, 210, 1) := ⟨fun _ => ⟨ca_Cp_show, tW5 179 rfl rfl, tW5 180 rfl rfl, by decide, by decide +kernel, _, rfl, tW5 181 rfl rfl⟩, (fun h => absurd h (by decide)), (fun h => absurd h (by decide)), (fun h => absurd h (by decide)), by decide⟩
set_option maxRecDepth 100000 in
theorem pf_L_59 : a_pf aYY aBB aMX aRR RL (8, 129, 240, 211, 1) := ⟨fun _ => ⟨ca_Mo_show, tW8 107 rfl rfl, tW8 108 rfl rfl, by decide, by decide +kernel, _, rfl, tW8 109 rfl rfl⟩, (fun h => absurd h (by decide)), (fun h => absurd h (by decide)), (fun h => absurd h (by decide)), by decide⟩
set_option maxRecDepth 100000 in
theorem pf_L_60 : a_pf aYY aBB aMX aRR RL (8, 130, 129, 210, 1) := ⟨fun _ => ⟨ca_Cp_slipped, tW5 190 rfl rfl, tW5 191 rfl rfl, by decide, by decide +kernel, _, rfl, tW5 192 rfl rfl⟩, (fun h => absurd h (by decide)), (fun h => absurd h (by decide)), (fun h => absurd h (by decide)), by decide⟩
set_option maxRecDepth 100000 in
theorem pf_L_61 : a_pf aYY aBB aMX aRR RL (8, 133, 241, 211, 1) := ⟨fun _ => ⟨ca_Mo_slipped, tW8 115 rfl rfl, tW8 116 rfl rfl, by decide, by decide +kernel, _, rfl, tW8 117 rfl rfl⟩, (fun h => absurd h (by decide)), (fun h => absurd h (by decide)), (fun h => absurd h (by decide)), by decide⟩
set_option maxRecDepth 100000 in
theorem pf_L_62 : a_pf aYY aBB aMX aRR RL (8, 134, 130, 210, 1) := ⟨fun _ => ⟨ca_Cp_image, tW5 194 rfl rfl, tW5 195 rfl rfl, by decide, by decide +kernel, _, rfl, tW5 196 rfl rfl⟩, (fun h => absurd h (by decide)), (fun h => absurd h (by decide)), (fun h => absurd h (by decide)), by decide⟩
set_option maxRecDepth 100000 in
theorem pf_L_63 : a_pf aYY aBB aMX aRR RL (8, 137, 150, 211, 1) := ⟨fun _ => ⟨ca_Mo_image, tW6 182 rfl rfl, tW6 183 rfl rfl, by decide, by decide +kernel, _, rfl, tW6 184 rfl rfl⟩, (fun h => absurd h (by decide)), (fun h => absurd h (by decide)), (fun h => absurd h (by decide)), by decide⟩
set_option maxRecDepth 100000 in
theorem pf_L_64 : a_pf aYY aBB aMX aRR RL (8, 138, 131, 210, 1) := ⟨fun _ => ⟨ca_Cp_back, tW5 204 rfl rfl, tW5 205 rfl rfl, by decide, by decide +kernel, _, rfl, tW5 206 rfl rfl⟩, (fun h => absurd h (by decide)), (fun h => absurd h (by decide)), (fun h => absurd h (by decide)), by decide⟩
set_option maxRecDepth 100000 in
theorem pf_L_65 : a_pf aYY aBB aMX aRR RL (8, 141, 151, 211, 1) := ⟨fun _ => ⟨ca_Mo_back, tW6 193 rfl rfl, tW6 194 rfl rfl, by decide, by decide +kernel, _, rfl, tW6 195 rfl rfl⟩, (fun h => absurd h (by decide)), (fun h => absurd h (by decide)), (fun h => absurd h (by decide)), by decide⟩
set_option maxRecDepth 100000 in
theorem pf_L_66 : a_pf aYY aBB aMX aRR RL (8, 142, 132, 210, 1) := ⟨fun _ => ⟨ca_Cp_count, tW5 208 rfl rfl, tW5 209 rfl rfl, by decide, by decide +kernel, _, rfl, tW5 210 rfl rfl⟩, (fun h => absurd h (by decide)), (fun h => absurd h (by decide)), (fun h => absurd h (by decide)), by decide⟩
set_option maxRecDepth 100000 in
theorem pf_L_67 : a_pf aYY aBB aMX aRR RL (8, 145, 242, 211, 1) := ⟨fun _ => ⟨ca_Mo_count, tW8 119 rfl rfl, tW8 120 rfl rfl, by decide, by decide +kernel, _, rfl, tW8 121 rfl rfl⟩, (fun h => absurd h (by decide)), (fun h => absurd h (by decide)), (fun h => absurd h (by decide)), by decide⟩
set_option maxRecDepth 100000 in
theorem pf_L_68 : a_pf aYY aBB aMX aRR RL (8, 146, 133, 110, 1) := ⟨fun _ => ⟨ca_Cp_status, tW5 216 rfl rfl, tW5 217 rfl rfl, by decide, by decide +kernel, _, rfl, tW5 218 rfl rfl⟩, (fun h => absurd h (by decide)), (fun h => absurd h (by decide)), (fun h => absurd h (by decide)), by decide⟩
set_option maxRecDepth 100000 in
theorem pf_L_69 : a_pf aYY aBB aMX aRR RL (8, 149, 243, 111, 1) := ⟨fun _ => ⟨ca_Mo_status, tW8 123 rfl rfl, tW8 124 rfl rfl, by decide, by decide +kernel, _, rfl, tW8 125 rfl rfl⟩, (fun h => absurd h (by decide)), (fun h => absurd h (by decide)), (fun h => absurd h (by decide)), by decide⟩
set_option maxRecDepth 100000 in
theorem pa_L : ∀ e ∈ po_L, a_pf aYY aBB aMX aRR RL e := List.forall_mem_cons.mpr ⟨pf_L_0, List.forall_mem_cons.mpr ⟨pf_L_1, List.forall_mem_cons.mpr ⟨pf_L_2, List.forall_mem_cons.mpr ⟨pf_L_3, List.forall_mem_cons.mpr ⟨pf_L_4, List.forall_mem_cons.mpr ⟨pf_L_5, List.forall_mem_cons.mpr ⟨pf_L_6, List.forall_mem_cons.mpr ⟨pf_L_7, List.forall_mem_cons.mpr ⟨pf_L_8, List.forall_mem_cons.mpr ⟨pf_L_9, List.forall_mem_cons.mpr ⟨pf_L_10, List.forall_mem_cons.mpr ⟨pf_L_11, List.forall_mem_cons.mpr ⟨pf_L_12, List.forall_mem_cons.mpr ⟨pf_L_13, List.forall_mem_cons.mpr ⟨pf_L_14, List.forall_mem_cons.mpr ⟨pf_L_15, List.forall_mem_cons.mpr ⟨pf_L_16, List.forall_mem_cons.mpr ⟨pf_L_17, List.forall_mem_cons.mpr ⟨pf_L_18, List.forall_mem_cons.mpr ⟨pf_L_19, List.forall_mem_cons.mpr ⟨pf_L_20, List.forall_mem_cons.mpr ⟨pf_L_21, List.forall_mem_cons.mpr ⟨pf_L_22, List.forall_mem_cons.mpr ⟨pf_L_23, List.forall_mem_cons.mpr ⟨pf_L_24, List.forall_mem_cons.mpr ⟨pf_L_25, List.forall_mem_cons.mpr ⟨pf_L_26, List.forall_mem_cons.mpr ⟨pf_L_27, List.forall_mem_cons.mpr ⟨pf_L_28, List.forall_mem_cons.mpr ⟨pf_L_29, List.forall_mem_cons.mpr ⟨pf_L_30, List.forall_mem_cons.mpr ⟨pf_L_31, List.forall_mem_cons.mpr ⟨pf_L_32, List.forall_mem_cons.mpr ⟨pf_L_33, List.forall_mem_cons.mpr ⟨pf_L_34, List.forall_mem_cons.mpr ⟨pf_L_35, List.forall_mem_cons.mpr ⟨pf_L_36, List.forall_mem_cons.mpr ⟨pf_L_37, List.forall_mem_cons.mpr ⟨pf_L_38, List.forall_mem_cons.mpr ⟨pf_L_39, List.forall_mem_cons.mpr ⟨pf_L_40, List.forall_mem_cons.mpr ⟨pf_L_41, List.forall_mem_cons.mpr ⟨pf_L_42, List.forall_mem_cons.mpr ⟨pf_L_43, List.forall_mem_cons.mpr ⟨pf_L_44, List.forall_mem_cons.mpr ⟨pf_L_45, List.forall_mem_cons.mpr ⟨pf_L_46, List.forall_mem_cons.mpr ⟨pf_L_47, List.forall_mem_cons.mpr ⟨pf_L_48, List.forall_mem_cons.mpr ⟨pf_L_49, List.forall_mem_cons.mpr ⟨pf_L_50, List.forall_mem_cons.mpr ⟨pf_L_51, List.forall_mem_cons.mpr ⟨pf_L_52, List.forall_mem_cons.mpr ⟨pf_L_53, List.forall_mem_cons.mpr ⟨pf_L_54, List.forall_mem_cons.mpr ⟨pf_L_55, List.forall_mem_cons.mpr ⟨pf_L_56, List.forall_mem_cons.mpr ⟨pf_L_57, List.forall_mem_cons.mpr ⟨pf_L_58, List.forall_mem_cons.mpr ⟨pf_L_59, List.forall_mem_cons.mpr ⟨pf_L_60, List.forall_mem_cons.mpr ⟨pf_L_61, List.forall_mem_cons.mpr ⟨pf_L_62, List.forall_mem_cons.mpr ⟨pf_L_63, List.forall_mem_cons.mpr ⟨pf_L_64, List.forall_mem_cons.mpr ⟨pf_L_65, List.forall_mem_cons.mpr ⟨pf_L_66, List.forall_mem_cons.mpr ⟨pf_L_67, List.forall_mem_cons.mpr ⟨pf_L_68, List.forall_mem_cons.mpr ⟨pf_L_69, (fun _ h => absurd h List.not_mem_nil)⟩⟩⟩⟩⟩⟩⟩⟩⟩⟩⟩⟩⟩⟩⟩⟩⟩⟩⟩⟩⟩⟩⟩⟩⟩⟩⟩⟩⟩⟩⟩⟩⟩⟩⟩⟩⟩⟩⟩⟩⟩⟩⟩⟩⟩⟩⟩⟩⟩⟩⟩⟩⟩⟩⟩⟩⟩⟩⟩⟩⟩⟩⟩⟩⟩⟩⟩⟩⟩⟩
def kI_L : List (Nat × Int32) := []
set_option maxRecDepth 100000 in
theorem ka_L : ∀ e ∈ kI_L, Jvm.Cond.constant RL e.1 e.2 ∈ aW := (fun _ h => absurd h List.not_mem_nil)
def kL_L : List (Nat × Int64) := []
set_option maxRecDepth 100000 in
theorem kb_L : ∀ e ∈ kL_L, Jvm.Cond.constantLong RL e.1 e.2 ∈ aW := (fun _ h => absurd h List.not_mem_nil)
set_option maxRecDepth 100000 in
theorem k_arr : Jvm.Cond.arrayClass .int ∈ aW ∧ Jvm.Cond.arrayClass .long ∈ aW ∧ Jvm.Cond.arrayClass .boolean ∈ aW := ⟨tW1 86 rfl rfl, tW1 213 rfl rfl, tW2 7 rfl rfl⟩
set_option maxRecDepth 100000 in
theorem uw_X0 : ∀ k, k < 4 → u_lay RX0 TX0 k ∈ aW := fun k hk => match k, hk with
  | 0, _ => tW1 204 rfl rfl
  | 1, _ => tW1 206 rfl rfl
  | 2, _ => tW1 208 rfl rfl
  | 3, _ => tW1 210 rfl rfl
  | n + 4, h => absurd h (by omega)
set_option maxRecDepth 100000 in
theorem uw_X1 : ∀ k, k < 8 → u_lay RX1 TX1 k ∈ aW := fun k hk => match k, hk with
  | 0, _ => tW1 230 rfl rfl
  | 1, _ => tW1 232 rfl rfl
  | 2, _ => tW1 234 rfl rfl
  | 3, _ => tW1 236 rfl rfl
  | 4, _ => tW1 238 rfl rfl
  | 5, _ => tW2 0 rfl rfl
  | 6, _ => tW2 2 rfl rfl
  | 7, _ => tW2 4 rfl rfl
  | n + 8, h => absurd h (by omega)
set_option maxRecDepth 100000 in
theorem uw_X2 : ∀ k, k < 1 → u_lay RX2 TX2 k ∈ aW := fun k hk => match k, hk with
  | 0, _ => tW1 191 rfl rfl
  | n + 1, h => absurd h (by omega)
set_option maxRecDepth 100000 in
theorem uw_X3 : ∀ k, k < 14 → u_lay RX3 TX3 k ∈ aW := fun k hk => match k, hk with
  | 0, _ => tW2 127 rfl rfl
  | 1, _ => tW2 129 rfl rfl
  | 2, _ => tW2 131 rfl rfl
  | 3, _ => tW2 133 rfl rfl
  | 4, _ => tW2 135 rfl rfl
  | 5, _ => tW2 137 rfl rfl
  | 6, _ => tW2 139 rfl rfl
  | 7, _ => tW2 141 rfl rfl
  | 8, _ => tW2 143 rfl rfl
  | 9, _ => tW2 145 rfl rfl
  | 10, _ => tW2 147 rfl rfl
  | 11, _ => tW2 149 rfl rfl
  | 12, _ => tW2 151 rfl rfl
  | 13, _ => tW2 153 rfl rfl
  | n + 14, h => absurd h (by omega)
set_option maxRecDepth 100000 in
theorem uw_X4 : ∀ k, k < 15 → u_lay RX4 TX4 k ∈ aW := fun k hk => match k, hk with
  | 0, _ => tW2 32 rfl rfl
  | 1, _ => tW2 34 rfl rfl
  | 2, _ => tW2 36 rfl rfl
  | 3, _ => tW2 38 rfl rfl
  | 4, _ => tW2 40 rfl rfl
  | 5, _ => tW2 42 rfl rfl
  | 6, _ => tW2 44 rfl rfl
  | 7, _ => tW2 46 rfl rfl
  | 8, _ => tW2 48 rfl rfl
  | 9, _ => tW2 50 rfl rfl
  | 10, _ => tW2 52 rfl rfl
  | 11, _ => tW2 54 rfl rfl
  | 12, _ => tW2 56 rfl rfl
  | 13, _ => tW2 58 rfl rfl
  | 14, _ => tW2 60 rfl rfl
  | n + 15, h => absurd h (by omega)
set_option maxRecDepth 100000 in
theorem uw_X5 : ∀ k, k < 9 → u_lay RX5 TX5 k ∈ aW := fun k hk => match k, hk with
  | 0, _ => tW5 62 rfl rfl
  | 1, _ => tW5 64 rfl rfl
  | 2, _ => tW5 66 rfl rfl
  | 3, _ => tW5 68 rfl rfl
  | 4, _ => tW5 70 rfl rfl
  | 5, _ => tW5 72 rfl rfl
  | 6, _ => tW5 74 rfl rfl
  | 7, _ => tW5 76 rfl rfl
  | 8, _ => tW5 78 rfl rfl
  | n + 9, h => absurd h (by omega)
set_option maxRecDepth 100000 in
theorem uw_X6 : ∀ k, k < 11 → u_lay RX6 TX6 k ∈ aW := fun k hk => match k, hk with
  | 0, _ => tW1 161 rfl rfl
  | 1, _ => tW1 163 rfl rfl
  | 2, _ => tW1 165 rfl rfl
  | 3, _ => tW1 167 rfl rfl
  | 4, _ => tW1 169 rfl rfl
  | 5, _ => tW1 171 rfl rfl
  | 6, _ => tW1 173 rfl rfl
  | 7, _ => tW1 175 rfl rfl
  | 8, _ => tW1 177 rfl rfl
  | 9, _ => tW1 179 rfl rfl
  | 10, _ => tW1 181 rfl rfl
  | n + 11, h => absurd h (by omega)
set_option maxRecDepth 100000 in
theorem uw_X7 : ∀ k, k < 9 → u_lay RX7 TX7 k ∈ aW := fun k hk => match k, hk with
  | 0, _ => tW1 120 rfl rfl
  | 1, _ => tW1 122 rfl rfl
  | 2, _ => tW1 124 rfl rfl
  | 3, _ => tW1 126 rfl rfl
  | 4, _ => tW1 128 rfl rfl
  | 5, _ => tW1 130 rfl rfl
  | 6, _ => tW1 132 rfl rfl
  | 7, _ => tW1 134 rfl rfl
  | 8, _ => tW1 136 rfl rfl
  | n + 9, h => absurd h (by omega)
set_option maxRecDepth 100000 in
theorem uw_X8 : ∀ k, k < 8 → u_lay RX8 TX8 k ∈ aW := fun k hk => match k, hk with
  | 0, _ => tW1 69 rfl rfl
  | 1, _ => tW1 71 rfl rfl
  | 2, _ => tW1 73 rfl rfl
  | 3, _ => tW1 75 rfl rfl
  | 4, _ => tW1 77 rfl rfl
  | 5, _ => tW1 79 rfl rfl
  | 6, _ => tW1 81 rfl rfl
  | 7, _ => tW1 83 rfl rfl
  | n + 8, h => absurd h (by omega)
set_option maxRecDepth 100000 in
theorem uw_X9 : ∀ k, k < 8 → u_lay RX9 TX9 k ∈ aW := fun k hk => match k, hk with
  | 0, _ => tW2 93 rfl rfl
  | 1, _ => tW2 95 rfl rfl
  | 2, _ => tW2 97 rfl rfl
  | 3, _ => tW2 99 rfl rfl
  | 4, _ => tW2 101 rfl rfl
  | 5, _ => tW2 103 rfl rfl
  | 6, _ => tW2 105 rfl rfl
  | 7, _ => tW2 107 rfl rfl
  | n + 8, h => absurd h (by omega)
set_option maxRecDepth 100000 in
theorem uw_X10 : ∀ k, k < 16 → u_lay RX10 TX10 k ∈ aW := fun k hk => match k, hk with
  | 0, _ => tW2 172 rfl rfl
  | 1, _ => tW2 174 rfl rfl
  | 2, _ => tW2 176 rfl rfl
  | 3, _ => tW2 178 rfl rfl
  | 4, _ => tW2 180 rfl rfl
  | 5, _ => tW2 182 rfl rfl
  | 6, _ => tW2 184 rfl rfl
  | 7, _ => tW2 186 rfl rfl
  | 8, _ => tW2 188 rfl rfl
  | 9, _ => tW2 190 rfl rfl
  | 10, _ => tW2 192 rfl rfl
  | 11, _ => tW2 194 rfl rfl
  | 12, _ => tW2 196 rfl rfl
  | 13, _ => tW2 198 rfl rfl
  | 14, _ => tW2 200 rfl rfl
  | 15, _ => tW2 202 rfl rfl
  | n + 16, h => absurd h (by omega)
set_option maxRecDepth 100000 in
theorem uw_X11 : ∀ k, k < 62 → u_lay RX11 TX11 k ∈ aW := fun k hk => match k, hk with
  | 0, _ => tW6 57 rfl rfl
  | 1, _ => tW6 59 rfl rfl
  | 2, _ => tW6 61 rfl rfl
  | 3, _ => tW6 63 rfl rfl
  | 4, _ => tW6 65 rfl rfl
  | 5, _ => tW6 67 rfl rfl
  | 6, _ => tW6 69 rfl rfl
  | 7, _ => tW6 71 rfl rfl
  | 8, _ => tW6 73 rfl rfl
  | 9, _ => tW6 75 rfl rfl
  | 10, _ => tW6 77 rfl rfl
  | 11, _ => tW6 79 rfl rfl
  | 12, _ => tW6 81 rfl rfl
  | 13, _ => tW6 83 rfl rfl
  | 14, _ => tW6 85 rfl rfl
  | 15, _ => tW6 87 rfl rfl
  | 16, _ => tW6 89 rfl rfl
  | 17, _ => tW6 91 rfl rfl
  | 18, _ => tW6 93 rfl rfl
  | 19, _ => tW6 95 rfl rfl
  | 20, _ => tW6 97 rfl rfl
  | 21, _ => tW6 99 rfl rfl
  | 22, _ => tW6 101 rfl rfl
  | 23, _ => tW6 103 rfl rfl
  | 24, _ => tW6 105 rfl rfl
  | 25, _ => tW6 107 rfl rfl
  | 26, _ => tW6 109 rfl rfl
  | 27, _ => tW6 111 rfl rfl
  | 28, _ => tW6 113 rfl rfl
  | 29, _ => tW6 115 rfl rfl
  | 30, _ => tW6 117 rfl rfl
  | 31, _ => tW6 119 rfl rfl
  | 32, _ => tW6 121 rfl rfl
  | 33, _ => tW6 123 rfl rfl
  | 34, _ => tW6 125 rfl rfl
  | 35, _ => tW6 127 rfl rfl
  | 36, _ => tW6 129 rfl rfl
  | 37, _ => tW6 131 rfl rfl
  | 38, _ => tW6 133 rfl rfl
  | 39, _ => tW6 135 rfl rfl
  | 40, _ => tW6 137 rfl rfl
  | 41, _ => tW6 139 rfl rfl
  | 42, _ => tW6 141 rfl rfl
  | 43, _ => tW6 143 rfl rfl
  | 44, _ => tW6 145 rfl rfl
  | 45, _ => tW6 147 rfl rfl
  | 46, _ => tW6 149 rfl rfl
  | 47, _ => tW6 151 rfl rfl
  | 48, _ => tW6 153 rfl rfl
  | 49, _ => tW6 155 rfl rfl
  | 50, _ => tW6 157 rfl rfl
  | 51, _ => tW6 159 rfl rfl
  | 52, _ => tW6 161 rfl rfl
  | 53, _ => tW6 163 rfl rfl
  | 54, _ => tW6 165 rfl rfl
  | 55, _ => tW6 167 rfl rfl
  | 56, _ => tW6 169 rfl rfl
  | 57, _ => tW6 171 rfl rfl
  | 58, _ => tW6 173 rfl rfl
  | 59, _ => tW6 175 rfl rfl
  | 60, _ => tW6 177 rfl rfl
  | 61, _ => tW6 179 rfl rfl
  | n + 62, h => absurd h (by omega)
theorem a_uw {C : String} {T : u_T} {N : Nat} (h : ∀ k, k < N → u_lay C T k ∈ aW) : ∀ w ∈ u_ws C T N, w ∈ aW := fun w hw => by
  obtain ⟨k, hk, rfl⟩ := List.mem_map.mp hw
  exact h k (List.mem_range.mp hk)
set_option maxRecDepth 100000 in
theorem a_fixed : a_fix := ⟨fun ci r h => (match ci, h with
  | 0, h => by cases h; exact a_uw uw_X0
  | 1, h => by cases h; exact a_uw uw_X1
  | 2, h => by cases h; exact a_uw uw_X2
  | 3, h => by cases h; exact a_uw uw_X3
  | 4, h => by cases h; exact a_uw uw_X4
  | 5, h => by cases h; exact a_uw uw_X5
  | 6, h => by cases h; exact a_uw uw_X6
  | 7, h => by cases h; exact a_uw uw_X7
  | 8, h => by cases h; exact a_uw uw_X8
  | 9, h => by cases h; exact a_uw uw_X9
  | 10, h => by cases h; exact a_uw uw_X10
  | 11, h => by cases h; exact a_uw uw_X11
  | n + 12, h => by cases h), tW3 100 rfl rfl, tW3 99 rfl rfl, tW1 15 rfl rfl, tW1 40 rfl rfl, tW1 41 rfl rfl, tW1 42 rfl rfl, tW1 43 rfl rfl, tW1 44 rfl rfl, ⟨tW3 118 rfl rfl, tW3 116 rfl rfl, tW3 117 rfl rfl⟩, ⟨tW3 128 rfl rfl, tW3 126 rfl rfl, tW3 127 rfl rfl⟩, tW1 16 rfl rfl, tW1 12 rfl rfl, ⟨tW3 39 rfl rfl, tW3 40 rfl rfl⟩, ⟨tW3 78 rfl rfl, tW3 79 rfl rfl⟩, ⟨tW4 103 rfl rfl, tW4 104 rfl rfl⟩, ⟨tW4 106 rfl rfl, tW4 107 rfl rfl⟩, ⟨tW4 71 rfl rfl, tW4 72 rfl rfl⟩⟩
set_option maxRecDepth 100000 in
theorem kw_cs : Jvm.Cond.fieldLink RJ0 38 RJ0 "COMPACT_STRINGS" "Z" ∈ aW := tW3 123 rfl rfl
set_option maxRecDepth 100000 in
theorem kw_co : Jvm.Cond.fieldLink RJ0 15 RJ0 "coder" "B" ∈ aW := tW8 128 rfl rfl
set_option maxRecDepth 100000 in
theorem kw_va : Jvm.Cond.fieldLink RJ0 9 RJ0 "value" "[B" ∈ aW := tW8 127 rfl rfl
set_option maxRecDepth 100000 in
theorem kw_fm : Jvm.Cond.fieldLink RJ0 1053 RJ3 "SIOOBE_FORMATTER" "Ljava/util/function/BiFunction;" ∈ aW := tW3 139 rfl rfl
set_option maxRecDepth 100000 in
theorem kw_c1 : Jvm.Cond.code yJ0_coder_7d493 cJ0_coder_7d493 1 (some .byte) ∈ aW := tW3 122 rfl rfl
set_option maxRecDepth 100000 in
theorem kw_l1 : Jvm.Cond.methodLink RJ0 335 yJ0_coder_7d493 ∈ aW := tW3 119 rfl rfl
set_option maxRecDepth 100000 in
theorem kw_i1 : Jvm.Cond.instanceMethod yJ0_coder_7d493 ∈ aW := tW3 120 rfl rfl
set_option maxRecDepth 100000 in
theorem kw_s1 : Jvm.Cond.selects RJ0 yJ0_coder_7d493 yJ0_coder_7d493 ∈ aW := tW3 121 rfl rfl
set_option maxRecDepth 100000 in
theorem kw_c2 : Jvm.Cond.code yJ0_isLatin1_aae02 cJ0_isLatin1_aae02 1 (some .boolean) ∈ aW := tW3 132 rfl rfl
set_option maxRecDepth 100000 in
theorem kw_l2 : Jvm.Cond.methodLink RJ0 492 yJ0_isLatin1_aae02 ∈ aW := tW3 129 rfl rfl
set_option maxRecDepth 100000 in
theorem kw_i2 : Jvm.Cond.instanceMethod yJ0_isLatin1_aae02 ∈ aW := tW3 130 rfl rfl
set_option maxRecDepth 100000 in
theorem kw_s2 : Jvm.Cond.selects RJ0 yJ0_isLatin1_aae02 yJ0_isLatin1_aae02 ∈ aW := tW3 131 rfl rfl
set_option maxRecDepth 100000 in
theorem kw_c3 : Jvm.Cond.code yJ1_charAt_3b067 cJ1_charAt_3b067 2 (some .char) ∈ aW := tW3 135 rfl rfl
set_option maxRecDepth 100000 in
theorem kw_l3 : Jvm.Cond.methodLink RJ0 495 yJ1_charAt_3b067 ∈ aW := tW3 133 rfl rfl
set_option maxRecDepth 100000 in
theorem kw_t3 : Jvm.Cond.static yJ1_charAt_3b067 ∈ aW := tW3 134 rfl rfl
set_option maxRecDepth 100000 in
theorem kw_n3 : Jvm.Cond.initialized RJ1 ∈ aW := tW1 17 rfl rfl
set_option maxRecDepth 100000 in
theorem kw_c4 : Jvm.Cond.code yJ0_checkIndex_df160 cJ0_checkIndex_df160 2 none ∈ aW := tW3 138 rfl rfl
set_option maxRecDepth 100000 in
theorem kw_l4 : Jvm.Cond.methodLink RJ1 9 yJ0_checkIndex_df160 ∈ aW := tW3 136 rfl rfl
set_option maxRecDepth 100000 in
theorem kw_t4 : Jvm.Cond.static yJ0_checkIndex_df160 ∈ aW := tW3 137 rfl rfl
set_option maxRecDepth 100000 in
theorem kw_c5 : Jvm.Cond.code yJ3_checkIndex_8e157 cJ3_checkIndex_8e157 3 (some .int) ∈ aW := tW3 143 rfl rfl
set_option maxRecDepth 100000 in
theorem kw_l5 : Jvm.Cond.methodLink RJ0 1059 yJ3_checkIndex_8e157 ∈ aW := tW3 141 rfl rfl
set_option maxRecDepth 100000 in
theorem kw_t5 : Jvm.Cond.static yJ3_checkIndex_8e157 ∈ aW := tW3 142 rfl rfl
set_option maxRecDepth 100000 in
theorem kw_n5 : Jvm.Cond.initialized RJ3 ∈ aW := tW1 18 rfl rfl
