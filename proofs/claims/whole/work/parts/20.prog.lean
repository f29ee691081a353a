/-! ===== tables, laid by wip/whole/gen_tab.py out of the decode rows that are printed for the claim ===== -/
theorem ok_Asker_init : ∀ e ∈ tb_Asker_init, a_ok aYY aBB aMX aRR 0 e.1 e.2 := fun e he => a_okb_sound (mi := 0) aYY aBB aMX aRR pa_X0 ka_X0 kb_X0 k_arr rfl rfl rfl (fun _ => rfl) (List.all_eq_true.mp ob_Asker_init e he)
theorem ok_Asker_turnTo : ∀ e ∈ tb_Asker_turnTo, a_ok aYY aBB aMX aRR 1 e.1 e.2 := fun e he => a_okb_sound (mi := 1) aYY aBB aMX aRR pa_X0 ka_X0 kb_X0 k_arr rfl rfl rfl (fun h => by cases h) (List.all_eq_true.mp ob_Asker_turnTo e he)
theorem ok_Asker_tellLast : ∀ e ∈ tb_Asker_tellLast, a_ok aYY aBB aMX aRR 2 e.1 e.2 := fun e he => a_okb_sound (mi := 2) aYY aBB aMX aRR pa_X0 ka_X0 kb_X0 k_arr rfl rfl rfl (fun h => by cases h) (List.all_eq_true.mp ob_Asker_tellLast e he)
theorem ok_Asker_valueOf : ∀ e ∈ tb_Asker_valueOf, a_ok aYY aBB aMX aRR 3 e.1 e.2 := fun e he => a_okb_sound (mi := 3) aYY aBB aMX aRR pa_X0 ka_X0 kb_X0 k_arr rfl rfl rfl (fun h => by cases h) (List.all_eq_true.mp ob_Asker_valueOf e he)
theorem ok_Asker_join : ∀ e ∈ tb_Asker_join, a_ok aYY aBB aMX aRR 4 e.1 e.2 := fun e he => a_okb_sound (mi := 4) aYY aBB aMX aRR pa_X0 ka_X0 kb_X0 k_arr rfl rfl rfl (fun h => by cases h) (List.all_eq_true.mp ob_Asker_join e he)
theorem ok_Hands_init : ∀ e ∈ tb_Hands_init, a_ok aYY aBB aMX aRR 5 e.1 e.2 := fun e he => a_okb_sound (mi := 5) aYY aBB aMX aRR pa_X1 ka_X1 kb_X1 k_arr rfl rfl rfl (fun _ => rfl) (List.all_eq_true.mp ob_Hands_init e he)
theorem ok_Hands_forget : ∀ e ∈ tb_Hands_forget, a_ok aYY aBB aMX aRR 6 e.1 e.2 := fun e he => a_okb_sound (mi := 6) aYY aBB aMX aRR pa_X1 ka_X1 kb_X1 k_arr rfl rfl rfl (fun h => by cases h) (List.all_eq_true.mp ob_Hands_forget e he)
theorem ok_Hands_lookAt : ∀ e ∈ tb_Hands_lookAt, a_ok aYY aBB aMX aRR 7 e.1 e.2 := fun e he => a_okb_sound (mi := 7) aYY aBB aMX aRR pa_X1 ka_X1 kb_X1 k_arr rfl rfl rfl (fun h => by cases h) (List.all_eq_true.mp ob_Hands_lookAt e he)
theorem ok_Hands_canHold : ∀ e ∈ tb_Hands_canHold, a_ok aYY aBB aMX aRR 8 e.1 e.2 := fun e he => a_okb_sound (mi := 8) aYY aBB aMX aRR pa_X1 ka_X1 kb_X1 k_arr rfl rfl rfl (fun h => by cases h) (List.all_eq_true.mp ob_Hands_canHold e he)
theorem ok_Hands_waysOfAll : ∀ e ∈ tb_Hands_waysOfAll, a_ok aYY aBB aMX aRR 9 e.1 e.2 := fun e he => a_okb_sound (mi := 9) aYY aBB aMX aRR pa_X1 ka_X1 kb_X1 k_arr rfl rfl rfl (fun h => by cases h) (List.all_eq_true.mp ob_Hands_waysOfAll e he)
theorem ok_Hands_firstBarred : ∀ e ∈ tb_Hands_firstBarred, a_ok aYY aBB aMX aRR 10 e.1 e.2 := fun e he => a_okb_sound (mi := 10) aYY aBB aMX aRR pa_X1 ka_X1 kb_X1 k_arr rfl rfl rfl (fun h => by cases h) (List.all_eq_true.mp ob_Hands_firstBarred e he)
theorem ok_Hands_coreAt : ∀ e ∈ tb_Hands_coreAt, a_ok aYY aBB aMX aRR 11 e.1 e.2 := fun e he => a_okb_sound (mi := 11) aYY aBB aMX aRR pa_X1 ka_X1 kb_X1 k_arr rfl rfl rfl (fun h => by cases h) (List.all_eq_true.mp ob_Hands_coreAt e he)
theorem ok_Hands_reached : ∀ e ∈ tb_Hands_reached, a_ok aYY aBB aMX aRR 12 e.1 e.2 := fun e he => a_okb_sound (mi := 12) aYY aBB aMX aRR pa_X1 ka_X1 kb_X1 k_arr rfl rfl rfl (fun h => by cases h) (List.all_eq_true.mp ob_Hands_reached e he)
theorem ok_Hands_spread : ∀ e ∈ tb_Hands_spread, a_ok aYY aBB aMX aRR 13 e.1 e.2 := fun e he => a_okb_sound (mi := 13) aYY aBB aMX aRR pa_X1 ka_X1 kb_X1 k_arr rfl rfl rfl (fun h => by cases h) (List.all_eq_true.mp ob_Hands_spread e he)
theorem ok_Hands_spreadWays : ∀ e ∈ tb_Hands_spreadWays, a_ok aYY aBB aMX aRR 14 e.1 e.2 := fun e he => a_okb_sound (mi := 14) aYY aBB aMX aRR pa_X1 ka_X1 kb_X1 k_arr rfl rfl rfl (fun h => by cases h) (List.all_eq_true.mp ob_Hands_spreadWays e he)
theorem ok_Hands_farFrom : ∀ e ∈ tb_Hands_farFrom, a_ok aYY aBB aMX aRR 15 e.1 e.2 := fun e he => a_okb_sound (mi := 15) aYY aBB aMX aRR pa_X1 ka_X1 kb_X1 k_arr rfl rfl rfl (fun h => by cases h) (List.all_eq_true.mp ob_Hands_farFrom e he)
theorem ok_Hands_allowedFor : ∀ e ∈ tb_Hands_allowedFor, a_ok aYY aBB aMX aRR 16 e.1 e.2 := fun e he => a_okb_sound (mi := 16) aYY aBB aMX aRR pa_X1 ka_X1 kb_X1 k_arr rfl rfl rfl (fun h => by cases h) (List.all_eq_true.mp ob_Hands_allowedFor e he)
theorem ok_Hands_setsFor : ∀ e ∈ tb_Hands_setsFor, a_ok aYY aBB aMX aRR 17 e.1 e.2 := fun e he => a_okb_sound (mi := 17) aYY aBB aMX aRR pa_X1 ka_X1 kb_X1 k_arr rfl rfl rfl (fun h => by cases h) (List.all_eq_true.mp ob_Hands_setsFor e he)
theorem ok_Hands_handsSuffice : ∀ e ∈ tb_Hands_handsSuffice, a_ok aYY aBB aMX aRR 18 e.1 e.2 := fun e he => a_okb_sound (mi := 18) aYY aBB aMX aRR pa_X1 ka_X1 kb_X1 k_arr rfl rfl rfl (fun h => by cases h) (List.all_eq_true.mp ob_Hands_handsSuffice e he)
theorem ok_Hands_isTogether : ∀ e ∈ tb_Hands_isTogether, a_ok aYY aBB aMX aRR 19 e.1 e.2 := fun e he => a_okb_sound (mi := 19) aYY aBB aMX aRR pa_X1 ka_X1 kb_X1 k_arr rfl rfl rfl (fun h => by cases h) (List.all_eq_true.mp ob_Hands_isTogether e he)
theorem ok_Light_init : ∀ e ∈ tb_Light_init, a_ok aYY aBB aMX aRR 20 e.1 e.2 := fun e he => a_okb_sound (mi := 20) aYY aBB aMX aRR pa_X2 ka_X2 kb_X2 k_arr rfl rfl rfl (fun _ => rfl) (List.all_eq_true.mp ob_Light_init e he)
theorem ok_Light_project : ∀ e ∈ tb_Light_project, a_ok aYY aBB aMX aRR 21 e.1 e.2 := fun e he => a_okb_sound (mi := 21) aYY aBB aMX aRR pa_X2 ka_X2 kb_X2 k_arr rfl rfl rfl (fun h => by cases h) (List.all_eq_true.mp ob_Light_project e he)
theorem ok_Light_rowOf : ∀ e ∈ tb_Light_rowOf, a_ok aYY aBB aMX aRR 22 e.1 e.2 := fun e he => a_okb_sound (mi := 22) aYY aBB aMX aRR pa_X2 ka_X2 kb_X2 k_arr rfl rfl rfl (fun h => by cases h) (List.all_eq_true.mp ob_Light_rowOf e he)
theorem ok_Light_rowOfAll : ∀ e ∈ tb_Light_rowOfAll, a_ok aYY aBB aMX aRR 23 e.1 e.2 := fun e he => a_okb_sound (mi := 23) aYY aBB aMX aRR pa_X2 ka_X2 kb_X2 k_arr rfl rfl rfl (fun h => by cases h) (List.all_eq_true.mp ob_Light_rowOfAll e he)
theorem ok_Light_cellsInBoth : ∀ e ∈ tb_Light_cellsInBoth, a_ok aYY aBB aMX aRR 24 e.1 e.2 := fun e he => a_okb_sound (mi := 24) aYY aBB aMX aRR pa_X2 ka_X2 kb_X2 k_arr rfl rfl rfl (fun h => by cases h) (List.all_eq_true.mp ob_Light_cellsInBoth e he)
theorem ok_Light_hiddenCells : ∀ e ∈ tb_Light_hiddenCells, a_ok aYY aBB aMX aRR 25 e.1 e.2 := fun e he => a_okb_sound (mi := 25) aYY aBB aMX aRR pa_X2 ka_X2 kb_X2 k_arr rfl rfl rfl (fun h => by cases h) (List.all_eq_true.mp ob_Light_hiddenCells e he)
theorem ok_Light_blur : ∀ e ∈ tb_Light_blur, a_ok aYY aBB aMX aRR 26 e.1 e.2 := fun e he => a_okb_sound (mi := 26) aYY aBB aMX aRR pa_X2 ka_X2 kb_X2 k_arr rfl rfl rfl (fun h => by cases h) (List.all_eq_true.mp ob_Light_blur e he)
theorem ok_Maker_init : ∀ e ∈ tb_Maker_init, a_ok aYY aBB aMX aRR 27 e.1 e.2 := fun e he => a_okb_sound (mi := 27) aYY aBB aMX aRR pa_X3 ka_X3 kb_X3 k_arr rfl rfl rfl (fun _ => rfl) (List.all_eq_true.mp ob_Maker_init e he)
theorem ok_Maker_forget : ∀ e ∈ tb_Maker_forget, a_ok aYY aBB aMX aRR 28 e.1 e.2 := fun e he => a_okb_sound (mi := 28) aYY aBB aMX aRR pa_X3 ka_X3 kb_X3 k_arr rfl rfl rfl (fun h => by cases h) (List.all_eq_true.mp ob_Maker_forget e he)
theorem ok_Maker_solve : ∀ e ∈ tb_Maker_solve, a_ok aYY aBB aMX aRR 29 e.1 e.2 := fun e he => a_okb_sound (mi := 29) aYY aBB aMX aRR pa_X3 ka_X3 kb_X3 k_arr rfl rfl rfl (fun h => by cases h) (List.all_eq_true.mp ob_Maker_solve e he)
theorem ok_Maker_wayCount : ∀ e ∈ tb_Maker_wayCount, a_ok aYY aBB aMX aRR 30 e.1 e.2 := fun e he => a_okb_sound (mi := 30) aYY aBB aMX aRR pa_X3 ka_X3 kb_X3 k_arr rfl rfl rfl (fun h => by cases h) (List.all_eq_true.mp ob_Maker_wayCount e he)
theorem ok_Maker_tellOf : ∀ e ∈ tb_Maker_tellOf, a_ok aYY aBB aMX aRR 31 e.1 e.2 := fun e he => a_okb_sound (mi := 31) aYY aBB aMX aRR pa_X3 ka_X3 kb_X3 k_arr rfl rfl rfl (fun h => by cases h) (List.all_eq_true.mp ob_Maker_tellOf e he)
theorem ok_Maker_gatherCast : ∀ e ∈ tb_Maker_gatherCast, a_ok aYY aBB aMX aRR 32 e.1 e.2 := fun e he => a_okb_sound (mi := 32) aYY aBB aMX aRR pa_X3 ka_X3 kb_X3 k_arr rfl rfl rfl (fun h => by cases h) (List.all_eq_true.mp ob_Maker_gatherCast e he)
theorem ok_Maker_trySet : ∀ e ∈ tb_Maker_trySet, a_ok aYY aBB aMX aRR 33 e.1 e.2 := fun e he => a_okb_sound (mi := 33) aYY aBB aMX aRR pa_X3 ka_X3 kb_X3 k_arr rfl rfl rfl (fun h => by cases h) (List.all_eq_true.mp ob_Maker_trySet e he)
theorem ok_Maker_isBetter : ∀ e ∈ tb_Maker_isBetter, a_ok aYY aBB aMX aRR 34 e.1 e.2 := fun e he => a_okb_sound (mi := 34) aYY aBB aMX aRR pa_X3 ka_X3 kb_X3 k_arr rfl rfl rfl (fun h => by cases h) (List.all_eq_true.mp ob_Maker_isBetter e he)
theorem ok_Maker_choose : ∀ e ∈ tb_Maker_choose, a_ok aYY aBB aMX aRR 35 e.1 e.2 := fun e he => a_okb_sound (mi := 35) aYY aBB aMX aRR pa_X3 ka_X3 kb_X3 k_arr rfl rfl rfl (fun h => by cases h) (List.all_eq_true.mp ob_Maker_choose e he)
theorem ok_Maker_trySingle : ∀ e ∈ tb_Maker_trySingle, a_ok aYY aBB aMX aRR 36 e.1 e.2 := fun e he => a_okb_sound (mi := 36) aYY aBB aMX aRR pa_X3 ka_X3 kb_X3 k_arr rfl rfl rfl (fun h => by cases h) (List.all_eq_true.mp ob_Maker_trySingle e he)
theorem ok_Maker_tryPair : ∀ e ∈ tb_Maker_tryPair, a_ok aYY aBB aMX aRR 37 e.1 e.2 := fun e he => a_okb_sound (mi := 37) aYY aBB aMX aRR pa_X3 ka_X3 kb_X3 k_arr rfl rfl rfl (fun h => by cases h) (List.all_eq_true.mp ob_Maker_tryPair e he)
theorem ok_Maker_tryTriple : ∀ e ∈ tb_Maker_tryTriple, a_ok aYY aBB aMX aRR 38 e.1 e.2 := fun e he => a_okb_sound (mi := 38) aYY aBB aMX aRR pa_X3 ka_X3 kb_X3 k_arr rfl rfl rfl (fun h => by cases h) (List.all_eq_true.mp ob_Maker_tryTriple e he)
theorem ok_Maker_rarestCell : ∀ e ∈ tb_Maker_rarestCell, a_ok aYY aBB aMX aRR 39 e.1 e.2 := fun e he => a_okb_sound (mi := 39) aYY aBB aMX aRR pa_X3 ka_X3 kb_X3 k_arr rfl rfl rfl (fun h => by cases h) (List.all_eq_true.mp ob_Maker_rarestCell e he)
theorem ok_Maker_countBeside : ∀ e ∈ tb_Maker_countBeside, a_ok aYY aBB aMX aRR 40 e.1 e.2 := fun e he => a_okb_sound (mi := 40) aYY aBB aMX aRR pa_X3 ka_X3 kb_X3 k_arr rfl rfl rfl (fun h => by cases h) (List.all_eq_true.mp ob_Maker_countBeside e he)
theorem ok_Maker_keepFirst : ∀ e ∈ tb_Maker_keepFirst, a_ok aYY aBB aMX aRR 41 e.1 e.2 := fun e he => a_okb_sound (mi := 41) aYY aBB aMX aRR pa_X3 ka_X3 kb_X3 k_arr rfl rfl rfl (fun h => by cases h) (List.all_eq_true.mp ob_Maker_keepFirst e he)
theorem ok_Maker_countFilling : ∀ e ∈ tb_Maker_countFilling, a_ok aYY aBB aMX aRR 42 e.1 e.2 := fun e he => a_okb_sound (mi := 42) aYY aBB aMX aRR pa_X3 ka_X3 kb_X3 k_arr rfl rfl rfl (fun h => by cases h) (List.all_eq_true.mp ob_Maker_countFilling e he)
theorem ok_Planner_init : ∀ e ∈ tb_Planner_init, a_ok aYY aBB aMX aRR 43 e.1 e.2 := fun e he => a_okb_sound (mi := 43) aYY aBB aMX aRR pa_X4 ka_X4 kb_X4 k_arr rfl rfl rfl (fun _ => rfl) (List.all_eq_true.mp ob_Planner_init e he)
theorem ok_Planner_findLeast : ∀ e ∈ tb_Planner_findLeast, a_ok aYY aBB aMX aRR 44 e.1 e.2 := fun e he => a_okb_sound (mi := 44) aYY aBB aMX aRR pa_X4 ka_X4 kb_X4 k_arr rfl rfl rfl (fun h => by cases h) (List.all_eq_true.mp ob_Planner_findLeast e he)
theorem ok_Planner_holderAt : ∀ e ∈ tb_Planner_holderAt, a_ok aYY aBB aMX aRR 45 e.1 e.2 := fun e he => a_okb_sound (mi := 45) aYY aBB aMX aRR pa_X4 ka_X4 kb_X4 k_arr rfl rfl rfl (fun h => by cases h) (List.all_eq_true.mp ob_Planner_holderAt e he)
theorem ok_Planner_passesOf : ∀ e ∈ tb_Planner_passesOf, a_ok aYY aBB aMX aRR 46 e.1 e.2 := fun e he => a_okb_sound (mi := 46) aYY aBB aMX aRR pa_X4 ka_X4 kb_X4 k_arr rfl rfl rfl (fun h => by cases h) (List.all_eq_true.mp ob_Planner_passesOf e he)
theorem ok_Planner_holderOf : ∀ e ∈ tb_Planner_holderOf, a_ok aYY aBB aMX aRR 47 e.1 e.2 := fun e he => a_okb_sound (mi := 47) aYY aBB aMX aRR pa_X4 ka_X4 kb_X4 k_arr rfl rfl rfl (fun h => by cases h) (List.all_eq_true.mp ob_Planner_holderOf e he)
theorem ok_Planner_sizeOf : ∀ e ∈ tb_Planner_sizeOf, a_ok aYY aBB aMX aRR 48 e.1 e.2 := fun e he => a_okb_sound (mi := 48) aYY aBB aMX aRR pa_X4 ka_X4 kb_X4 k_arr rfl rfl rfl (fun h => by cases h) (List.all_eq_true.mp ob_Planner_sizeOf e he)
theorem ok_Planner_costAt : ∀ e ∈ tb_Planner_costAt, a_ok aYY aBB aMX aRR 49 e.1 e.2 := fun e he => a_okb_sound (mi := 49) aYY aBB aMX aRR pa_X4 ka_X4 kb_X4 k_arr rfl rfl rfl (fun h => by cases h) (List.all_eq_true.mp ob_Planner_costAt e he)
theorem ok_Planner_fillCosts : ∀ e ∈ tb_Planner_fillCosts, a_ok aYY aBB aMX aRR 50 e.1 e.2 := fun e he => a_okb_sound (mi := 50) aYY aBB aMX aRR pa_X4 ka_X4 kb_X4 k_arr rfl rfl rfl (fun h => by cases h) (List.all_eq_true.mp ob_Planner_fillCosts e he)
theorem ok_Planner_carryBack : ∀ e ∈ tb_Planner_carryBack, a_ok aYY aBB aMX aRR 51 e.1 e.2 := fun e he => a_okb_sound (mi := 51) aYY aBB aMX aRR pa_X4 ka_X4 kb_X4 k_arr rfl rfl rfl (fun h => by cases h) (List.all_eq_true.mp ob_Planner_carryBack e he)
theorem ok_Planner_mix : ∀ e ∈ tb_Planner_mix, a_ok aYY aBB aMX aRR 52 e.1 e.2 := fun e he => a_okb_sound (mi := 52) aYY aBB aMX aRR pa_X4 ka_X4 kb_X4 k_arr rfl rfl rfl (fun h => by cases h) (List.all_eq_true.mp ob_Planner_mix e he)
theorem ok_Planner_either : ∀ e ∈ tb_Planner_either, a_ok aYY aBB aMX aRR 53 e.1 e.2 := fun e he => a_okb_sound (mi := 53) aYY aBB aMX aRR pa_X4 ka_X4 kb_X4 k_arr rfl rfl rfl (fun h => by cases h) (List.all_eq_true.mp ob_Planner_either e he)
theorem ok_Planner_keepHoldings : ∀ e ∈ tb_Planner_keepHoldings, a_ok aYY aBB aMX aRR 54 e.1 e.2 := fun e he => a_okb_sound (mi := 54) aYY aBB aMX aRR pa_X4 ka_X4 kb_X4 k_arr rfl rfl rfl (fun h => by cases h) (List.all_eq_true.mp ob_Planner_keepHoldings e he)
theorem ok_Planner_give : ∀ e ∈ tb_Planner_give, a_ok aYY aBB aMX aRR 55 e.1 e.2 := fun e he => a_okb_sound (mi := 55) aYY aBB aMX aRR pa_X4 ka_X4 kb_X4 k_arr rfl rfl rfl (fun h => by cases h) (List.all_eq_true.mp ob_Planner_give e he)
theorem ok_Planner_sumUp : ∀ e ∈ tb_Planner_sumUp, a_ok aYY aBB aMX aRR 56 e.1 e.2 := fun e he => a_okb_sound (mi := 56) aYY aBB aMX aRR pa_X4 ka_X4 kb_X4 k_arr rfl rfl rfl (fun h => by cases h) (List.all_eq_true.mp ob_Planner_sumUp e he)
theorem ok_Planner_followFirst : ∀ e ∈ tb_Planner_followFirst, a_ok aYY aBB aMX aRR 57 e.1 e.2 := fun e he => a_okb_sound (mi := 57) aYY aBB aMX aRR pa_X4 ka_X4 kb_X4 k_arr rfl rfl rfl (fun h => by cases h) (List.all_eq_true.mp ob_Planner_followFirst e he)
theorem ok_Planner_passTo : ∀ e ∈ tb_Planner_passTo, a_ok aYY aBB aMX aRR 58 e.1 e.2 := fun e he => a_okb_sound (mi := 58) aYY aBB aMX aRR pa_X4 ka_X4 kb_X4 k_arr rfl rfl rfl (fun h => by cases h) (List.all_eq_true.mp ob_Planner_passTo e he)
theorem ok_Prints_init : ∀ e ∈ tb_Prints_init, a_ok aYY aBB aMX aRR 59 e.1 e.2 := fun e he => a_okb_sound (mi := 59) aYY aBB aMX aRR pa_X5 ka_X5 kb_X5 k_arr rfl rfl rfl (fun _ => rfl) (List.all_eq_true.mp ob_Prints_init e he)
theorem ok_Prints_gather : ∀ e ∈ tb_Prints_gather, a_ok aYY aBB aMX aRR 60 e.1 e.2 := fun e he => a_okb_sound (mi := 60) aYY aBB aMX aRR pa_X5 ka_X5 kb_X5 k_arr rfl rfl rfl (fun h => by cases h) (List.all_eq_true.mp ob_Prints_gather e he)
theorem ok_Prints_staysWithin : ∀ e ∈ tb_Prints_staysWithin, a_ok aYY aBB aMX aRR 61 e.1 e.2 := fun e he => a_okb_sound (mi := 61) aYY aBB aMX aRR pa_X5 ka_X5 kb_X5 k_arr rfl rfl rfl (fun h => by cases h) (List.all_eq_true.mp ob_Prints_staysWithin e he)
theorem ok_Prints_maskAt : ∀ e ∈ tb_Prints_maskAt, a_ok aYY aBB aMX aRR 62 e.1 e.2 := fun e he => a_okb_sound (mi := 62) aYY aBB aMX aRR pa_X5 ka_X5 kb_X5 k_arr rfl rfl rfl (fun h => by cases h) (List.all_eq_true.mp ob_Prints_maskAt e he)
theorem ok_Prints_add : ∀ e ∈ tb_Prints_add, a_ok aYY aBB aMX aRR 63 e.1 e.2 := fun e he => a_okb_sound (mi := 63) aYY aBB aMX aRR pa_X5 ka_X5 kb_X5 k_arr rfl rfl rfl (fun h => by cases h) (List.all_eq_true.mp ob_Prints_add e he)
theorem ok_Reader_init : ∀ e ∈ tb_Reader_init, a_ok aYY aBB aMX aRR 64 e.1 e.2 := fun e he => a_okb_sound (mi := 64) aYY aBB aMX aRR pa_X6 ka_X6 kb_X6 k_arr rfl rfl rfl (fun _ => rfl) (List.all_eq_true.mp ob_Reader_init e he)
theorem ok_Reader_readText : ∀ e ∈ tb_Reader_readText, a_ok aYY aBB aMX aRR 65 e.1 e.2 := fun e he => a_okb_sound (mi := 65) aYY aBB aMX aRR pa_X6 ka_X6 kb_X6 k_arr rfl rfl rfl (fun h => by cases h) (List.all_eq_true.mp ob_Reader_readText e he)
theorem ok_Reader_tellMoves : ∀ e ∈ tb_Reader_tellMoves, a_ok aYY aBB aMX aRR 66 e.1 e.2 := fun e he => a_okb_sound (mi := 66) aYY aBB aMX aRR pa_X6 ka_X6 kb_X6 k_arr rfl rfl rfl (fun h => by cases h) (List.all_eq_true.mp ob_Reader_tellMoves e he)
theorem ok_Reader_readClause : ∀ e ∈ tb_Reader_readClause, a_ok aYY aBB aMX aRR 67 e.1 e.2 := fun e he => a_okb_sound (mi := 67) aYY aBB aMX aRR pa_X6 ka_X6 kb_X6 k_arr rfl rfl rfl (fun h => by cases h) (List.all_eq_true.mp ob_Reader_readClause e he)
theorem ok_Reader_readMove : ∀ e ∈ tb_Reader_readMove, a_ok aYY aBB aMX aRR 68 e.1 e.2 := fun e he => a_okb_sound (mi := 68) aYY aBB aMX aRR pa_X6 ka_X6 kb_X6 k_arr rfl rfl rfl (fun h => by cases h) (List.all_eq_true.mp ob_Reader_readMove e he)
theorem ok_Reader_readLevel : ∀ e ∈ tb_Reader_readLevel, a_ok aYY aBB aMX aRR 69 e.1 e.2 := fun e he => a_okb_sound (mi := 69) aYY aBB aMX aRR pa_X6 ka_X6 kb_X6 k_arr rfl rfl rfl (fun h => by cases h) (List.all_eq_true.mp ob_Reader_readLevel e he)
theorem ok_Reader_operationAt : ∀ e ∈ tb_Reader_operationAt, a_ok aYY aBB aMX aRR 70 e.1 e.2 := fun e he => a_okb_sound (mi := 70) aYY aBB aMX aRR pa_X6 ka_X6 kb_X6 k_arr rfl rfl rfl (fun h => by cases h) (List.all_eq_true.mp ob_Reader_operationAt e he)
theorem ok_Reader_readPlain : ∀ e ∈ tb_Reader_readPlain, a_ok aYY aBB aMX aRR 71 e.1 e.2 := fun e he => a_okb_sound (mi := 71) aYY aBB aMX aRR pa_X6 ka_X6 kb_X6 k_arr rfl rfl rfl (fun h => by cases h) (List.all_eq_true.mp ob_Reader_readPlain e he)
theorem ok_Reader_readComparison : ∀ e ∈ tb_Reader_readComparison, a_ok aYY aBB aMX aRR 72 e.1 e.2 := fun e he => a_okb_sound (mi := 72) aYY aBB aMX aRR pa_X6 ka_X6 kb_X6 k_arr rfl rfl rfl (fun h => by cases h) (List.all_eq_true.mp ob_Reader_readComparison e he)
theorem ok_Reader_readWithin : ∀ e ∈ tb_Reader_readWithin, a_ok aYY aBB aMX aRR 73 e.1 e.2 := fun e he => a_okb_sound (mi := 73) aYY aBB aMX aRR pa_X6 ka_X6 kb_X6 k_arr rfl rfl rfl (fun h => by cases h) (List.all_eq_true.mp ob_Reader_readWithin e he)
theorem ok_Reader_readPart : ∀ e ∈ tb_Reader_readPart, a_ok aYY aBB aMX aRR 74 e.1 e.2 := fun e he => a_okb_sound (mi := 74) aYY aBB aMX aRR pa_X6 ka_X6 kb_X6 k_arr rfl rfl rfl (fun h => by cases h) (List.all_eq_true.mp ob_Reader_readPart e he)
theorem ok_Reader_fail : ∀ e ∈ tb_Reader_fail, a_ok aYY aBB aMX aRR 75 e.1 e.2 := fun e he => a_okb_sound (mi := 75) aYY aBB aMX aRR pa_X6 ka_X6 kb_X6 k_arr rfl rfl rfl (fun h => by cases h) (List.all_eq_true.mp ob_Reader_fail e he)
theorem ok_Reader_take : ∀ e ∈ tb_Reader_take, a_ok aYY aBB aMX aRR 76 e.1 e.2 := fun e he => a_okb_sound (mi := 76) aYY aBB aMX aRR pa_X6 ka_X6 kb_X6 k_arr rfl rfl rfl (fun h => by cases h) (List.all_eq_true.mp ob_Reader_take e he)
theorem ok_Reader_takeNumber : ∀ e ∈ tb_Reader_takeNumber, a_ok aYY aBB aMX aRR 77 e.1 e.2 := fun e he => a_okb_sound (mi := 77) aYY aBB aMX aRR pa_X6 ka_X6 kb_X6 k_arr rfl rfl rfl (fun h => by cases h) (List.all_eq_true.mp ob_Reader_takeNumber e he)
theorem ok_Reader_advance : ∀ e ∈ tb_Reader_advance, a_ok aYY aBB aMX aRR 78 e.1 e.2 := fun e he => a_okb_sound (mi := 78) aYY aBB aMX aRR pa_X6 ka_X6 kb_X6 k_arr rfl rfl rfl (fun h => by cases h) (List.all_eq_true.mp ob_Reader_advance e he)
theorem ok_Reader_wordBetween : ∀ e ∈ tb_Reader_wordBetween, a_ok aYY aBB aMX aRR 79 e.1 e.2 := fun e he => a_okb_sound (mi := 79) aYY aBB aMX aRR pa_X6 ka_X6 kb_X6 k_arr rfl rfl rfl (fun h => by cases h) (List.all_eq_true.mp ob_Reader_wordBetween e he)
theorem ok_Scene_init : ∀ e ∈ tb_Scene_init, a_ok aYY aBB aMX aRR 80 e.1 e.2 := fun e he => a_okb_sound (mi := 80) aYY aBB aMX aRR pa_X7 ka_X7 kb_X7 k_arr rfl rfl rfl (fun _ => rfl) (List.all_eq_true.mp ob_Scene_init e he)
theorem ok_Scene_has : ∀ e ∈ tb_Scene_has, a_ok aYY aBB aMX aRR 81 e.1 e.2 := fun e he => a_okb_sound (mi := 81) aYY aBB aMX aRR pa_X7 ka_X7 kb_X7 k_arr rfl rfl rfl (fun h => by cases h) (List.all_eq_true.mp ob_Scene_has e he)
theorem ok_Scene_isOn : ∀ e ∈ tb_Scene_isOn, a_ok aYY aBB aMX aRR 82 e.1 e.2 := fun e he => a_okb_sound (mi := 82) aYY aBB aMX aRR pa_X7 ka_X7 kb_X7 k_arr rfl rfl rfl (fun h => by cases h) (List.all_eq_true.mp ob_Scene_isOn e he)
theorem ok_Scene_depth : ∀ e ∈ tb_Scene_depth, a_ok aYY aBB aMX aRR 83 e.1 e.2 := fun e he => a_okb_sound (mi := 83) aYY aBB aMX aRR pa_X7 ka_X7 kb_X7 k_arr rfl rfl rfl (fun h => by cases h) (List.all_eq_true.mp ob_Scene_depth e he)
theorem ok_Scene_onBits : ∀ e ∈ tb_Scene_onBits, a_ok aYY aBB aMX aRR 84 e.1 e.2 := fun e he => a_okb_sound (mi := 84) aYY aBB aMX aRR pa_X7 ka_X7 kb_X7 k_arr rfl rfl rfl (fun h => by cases h) (List.all_eq_true.mp ob_Scene_onBits e he)
theorem ok_Scene_put : ∀ e ∈ tb_Scene_put, a_ok aYY aBB aMX aRR 85 e.1 e.2 := fun e he => a_okb_sound (mi := 85) aYY aBB aMX aRR pa_X7 ka_X7 kb_X7 k_arr rfl rfl rfl (fun h => by cases h) (List.all_eq_true.mp ob_Scene_put e he)
theorem ok_Scene_stays : ∀ e ∈ tb_Scene_stays, a_ok aYY aBB aMX aRR 86 e.1 e.2 := fun e he => a_okb_sound (mi := 86) aYY aBB aMX aRR pa_X7 ka_X7 kb_X7 k_arr rfl rfl rfl (fun h => by cases h) (List.all_eq_true.mp ob_Scene_stays e he)
theorem ok_Scene_toldCells : ∀ e ∈ tb_Scene_toldCells, a_ok aYY aBB aMX aRR 87 e.1 e.2 := fun e he => a_okb_sound (mi := 87) aYY aBB aMX aRR pa_X7 ka_X7 kb_X7 k_arr rfl rfl rfl (fun h => by cases h) (List.all_eq_true.mp ob_Scene_toldCells e he)
theorem ok_Scene_takeFrom : ∀ e ∈ tb_Scene_takeFrom, a_ok aYY aBB aMX aRR 88 e.1 e.2 := fun e he => a_okb_sound (mi := 88) aYY aBB aMX aRR pa_X7 ka_X7 kb_X7 k_arr rfl rfl rfl (fun h => by cases h) (List.all_eq_true.mp ob_Scene_takeFrom e he)
theorem ok_Script_init : ∀ e ∈ tb_Script_init, a_ok aYY aBB aMX aRR 89 e.1 e.2 := fun e he => a_okb_sound (mi := 89) aYY aBB aMX aRR pa_X8 ka_X8 kb_X8 k_arr rfl rfl rfl (fun _ => rfl) (List.all_eq_true.mp ob_Script_init e he)
theorem ok_Script_clear : ∀ e ∈ tb_Script_clear, a_ok aYY aBB aMX aRR 90 e.1 e.2 := fun e he => a_okb_sound (mi := 90) aYY aBB aMX aRR pa_X8 ka_X8 kb_X8 k_arr rfl rfl rfl (fun h => by cases h) (List.all_eq_true.mp ob_Script_clear e he)
theorem ok_Script_add : ∀ e ∈ tb_Script_add, a_ok aYY aBB aMX aRR 91 e.1 e.2 := fun e he => a_okb_sound (mi := 91) aYY aBB aMX aRR pa_X8 ka_X8 kb_X8 k_arr rfl rfl rfl (fun h => by cases h) (List.all_eq_true.mp ob_Script_add e he)
theorem ok_Script_jumpToHere : ∀ e ∈ tb_Script_jumpToHere, a_ok aYY aBB aMX aRR 92 e.1 e.2 := fun e he => a_okb_sound (mi := 92) aYY aBB aMX aRR pa_X8 ka_X8 kb_X8 k_arr rfl rfl rfl (fun h => by cases h) (List.all_eq_true.mp ob_Script_jumpToHere e he)
theorem ok_Script_startLaw : ∀ e ∈ tb_Script_startLaw, a_ok aYY aBB aMX aRR 93 e.1 e.2 := fun e he => a_okb_sound (mi := 93) aYY aBB aMX aRR pa_X8 ka_X8 kb_X8 k_arr rfl rfl rfl (fun h => by cases h) (List.all_eq_true.mp ob_Script_startLaw e he)
theorem ok_Script_startTest : ∀ e ∈ tb_Script_startTest, a_ok aYY aBB aMX aRR 94 e.1 e.2 := fun e he => a_okb_sound (mi := 94) aYY aBB aMX aRR pa_X8 ka_X8 kb_X8 k_arr rfl rfl rfl (fun h => by cases h) (List.all_eq_true.mp ob_Script_startTest e he)
theorem ok_Script_endLaw : ∀ e ∈ tb_Script_endLaw, a_ok aYY aBB aMX aRR 95 e.1 e.2 := fun e he => a_okb_sound (mi := 95) aYY aBB aMX aRR pa_X8 ka_X8 kb_X8 k_arr rfl rfl rfl (fun h => by cases h) (List.all_eq_true.mp ob_Script_endLaw e he)
theorem ok_Script_takeFrom : ∀ e ∈ tb_Script_takeFrom, a_ok aYY aBB aMX aRR 96 e.1 e.2 := fun e he => a_okb_sound (mi := 96) aYY aBB aMX aRR pa_X8 ka_X8 kb_X8 k_arr rfl rfl rfl (fun h => by cases h) (List.all_eq_true.mp ob_Script_takeFrom e he)
theorem ok_Target_init : ∀ e ∈ tb_Target_init, a_ok aYY aBB aMX aRR 97 e.1 e.2 := fun e he => a_okb_sound (mi := 97) aYY aBB aMX aRR pa_X9 ka_X9 kb_X9 k_arr rfl rfl rfl (fun _ => rfl) (List.all_eq_true.mp ob_Target_init e he)
theorem ok_Target_lookAt : ∀ e ∈ tb_Target_lookAt, a_ok aYY aBB aMX aRR 98 e.1 e.2 := fun e he => a_okb_sound (mi := 98) aYY aBB aMX aRR pa_X9 ka_X9 kb_X9 k_arr rfl rfl rfl (fun h => by cases h) (List.all_eq_true.mp ob_Target_lookAt e he)
theorem ok_Target_lookFrom : ∀ e ∈ tb_Target_lookFrom, a_ok aYY aBB aMX aRR 99 e.1 e.2 := fun e he => a_okb_sound (mi := 99) aYY aBB aMX aRR pa_X9 ka_X9 kb_X9 k_arr rfl rfl rfl (fun h => by cases h) (List.all_eq_true.mp ob_Target_lookFrom e he)
theorem ok_Cp_init : ∀ e ∈ tb_Cp_init, a_ok aYY aBB aMX aRR 100 e.1 e.2 := fun e he => a_okb_sound (mi := 100) aYY aBB aMX aRR pa_X10 ka_X10 kb_X10 k_arr rfl rfl rfl (fun _ => rfl) (List.all_eq_true.mp ob_Cp_init e he)
theorem ok_Cp_figure : ∀ e ∈ tb_Cp_figure, a_ok aYY aBB aMX aRR 101 e.1 e.2 := fun e he => a_okb_sound (mi := 101) aYY aBB aMX aRR pa_X10 ka_X10 kb_X10 k_arr rfl rfl rfl (fun h => by cases h) (List.all_eq_true.mp ob_Cp_figure e he)
theorem ok_Cp_sticks : ∀ e ∈ tb_Cp_sticks, a_ok aYY aBB aMX aRR 102 e.1 e.2 := fun e he => a_okb_sound (mi := 102) aYY aBB aMX aRR pa_X10 ka_X10 kb_X10 k_arr rfl rfl rfl (fun h => by cases h) (List.all_eq_true.mp ob_Cp_sticks e he)
theorem ok_Cp_terms : ∀ e ∈ tb_Cp_terms, a_ok aYY aBB aMX aRR 103 e.1 e.2 := fun e he => a_okb_sound (mi := 103) aYY aBB aMX aRR pa_X10 ka_X10 kb_X10 k_arr rfl rfl rfl (fun h => by cases h) (List.all_eq_true.mp ob_Cp_terms e he)
theorem ok_Cp_on : ∀ e ∈ tb_Cp_on, a_ok aYY aBB aMX aRR 104 e.1 e.2 := fun e he => a_okb_sound (mi := 104) aYY aBB aMX aRR pa_X10 ka_X10 kb_X10 k_arr rfl rfl rfl (fun h => by cases h) (List.all_eq_true.mp ob_Cp_on e he)
theorem ok_Cp_off : ∀ e ∈ tb_Cp_off, a_ok aYY aBB aMX aRR 105 e.1 e.2 := fun e he => a_okb_sound (mi := 105) aYY aBB aMX aRR pa_X10 ka_X10 kb_X10 k_arr rfl rfl rfl (fun h => by cases h) (List.all_eq_true.mp ob_Cp_off e he)
theorem ok_Cp_of : ∀ e ∈ tb_Cp_of, a_ok aYY aBB aMX aRR 106 e.1 e.2 := fun e he => a_okb_sound (mi := 106) aYY aBB aMX aRR pa_X10 ka_X10 kb_X10 k_arr rfl rfl rfl (fun h => by cases h) (List.all_eq_true.mp ob_Cp_of e he)
theorem ok_Cp_feed : ∀ e ∈ tb_Cp_feed, a_ok aYY aBB aMX aRR 107 e.1 e.2 := fun e he => a_okb_sound (mi := 107) aYY aBB aMX aRR pa_X10 ka_X10 kb_X10 k_arr rfl rfl rfl (fun h => by cases h) (List.all_eq_true.mp ob_Cp_feed e he)
theorem ok_Cp_end : ∀ e ∈ tb_Cp_end, a_ok aYY aBB aMX aRR 108 e.1 e.2 := fun e he => a_okb_sound (mi := 108) aYY aBB aMX aRR pa_X10 ka_X10 kb_X10 k_arr rfl rfl rfl (fun h => by cases h) (List.all_eq_true.mp ob_Cp_end e he)
theorem ok_Cp_row : ∀ e ∈ tb_Cp_row, a_ok aYY aBB aMX aRR 109 e.1 e.2 := fun e he => a_okb_sound (mi := 109) aYY aBB aMX aRR pa_X10 ka_X10 kb_X10 k_arr rfl rfl rfl (fun h => by cases h) (List.all_eq_true.mp ob_Cp_row e he)
theorem ok_Cp_torn : ∀ e ∈ tb_Cp_torn, a_ok aYY aBB aMX aRR 110 e.1 e.2 := fun e he => a_okb_sound (mi := 110) aYY aBB aMX aRR pa_X10 ka_X10 kb_X10 k_arr rfl rfl rfl (fun h => by cases h) (List.all_eq_true.mp ob_Cp_torn e he)
theorem ok_Cp_outline : ∀ e ∈ tb_Cp_outline, a_ok aYY aBB aMX aRR 111 e.1 e.2 := fun e he => a_okb_sound (mi := 111) aYY aBB aMX aRR pa_X10 ka_X10 kb_X10 k_arr rfl rfl rfl (fun h => by cases h) (List.all_eq_true.mp ob_Cp_outline e he)
theorem ok_Cp_play : ∀ e ∈ tb_Cp_play, a_ok aYY aBB aMX aRR 112 e.1 e.2 := fun e he => a_okb_sound (mi := 112) aYY aBB aMX aRR pa_X10 ka_X10 kb_X10 k_arr rfl rfl rfl (fun h => by cases h) (List.all_eq_true.mp ob_Cp_play e he)
theorem ok_Cp_fault : ∀ e ∈ tb_Cp_fault, a_ok aYY aBB aMX aRR 113 e.1 e.2 := fun e he => a_okb_sound (mi := 113) aYY aBB aMX aRR pa_X10 ka_X10 kb_X10 k_arr rfl rfl rfl (fun h => by cases h) (List.all_eq_true.mp ob_Cp_fault e he)
theorem ok_Cp_shadow : ∀ e ∈ tb_Cp_shadow, a_ok aYY aBB aMX aRR 114 e.1 e.2 := fun e he => a_okb_sound (mi := 114) aYY aBB aMX aRR pa_X10 ka_X10 kb_X10 k_arr rfl rfl rfl (fun h => by cases h) (List.all_eq_true.mp ob_Cp_shadow e he)
theorem ok_Cp_seen : ∀ e ∈ tb_Cp_seen, a_ok aYY aBB aMX aRR 115 e.1 e.2 := fun e he => a_okb_sound (mi := 115) aYY aBB aMX aRR pa_X10 ka_X10 kb_X10 k_arr rfl rfl rfl (fun h => by cases h) (List.all_eq_true.mp ob_Cp_seen e he)
theorem ok_Cp_common : ∀ e ∈ tb_Cp_common, a_ok aYY aBB aMX aRR 116 e.1 e.2 := fun e he => a_okb_sound (mi := 116) aYY aBB aMX aRR pa_X10 ka_X10 kb_X10 k_arr rfl rfl rfl (fun h => by cases h) (List.all_eq_true.mp ob_Cp_common e he)
theorem ok_Cp_holds : ∀ e ∈ tb_Cp_holds, a_ok aYY aBB aMX aRR 117 e.1 e.2 := fun e he => a_okb_sound (mi := 117) aYY aBB aMX aRR pa_X10 ka_X10 kb_X10 k_arr rfl rfl rfl (fun h => by cases h) (List.all_eq_true.mp ob_Cp_holds e he)
theorem ok_Cp_holdings : ∀ e ∈ tb_Cp_holdings, a_ok aYY aBB aMX aRR 118 e.1 e.2 := fun e he => a_okb_sound (mi := 118) aYY aBB aMX aRR pa_X10 ka_X10 kb_X10 k_arr rfl rfl rfl (fun h => by cases h) (List.all_eq_true.mp ob_Cp_holdings e he)
theorem ok_Cp_least : ∀ e ∈ tb_Cp_least, a_ok aYY aBB aMX aRR 119 e.1 e.2 := fun e he => a_okb_sound (mi := 119) aYY aBB aMX aRR pa_X10 ka_X10 kb_X10 k_arr rfl rfl rfl (fun h => by cases h) (List.all_eq_true.mp ob_Cp_least e he)
theorem ok_Cp_holder : ∀ e ∈ tb_Cp_holder, a_ok aYY aBB aMX aRR 120 e.1 e.2 := fun e he => a_okb_sound (mi := 120) aYY aBB aMX aRR pa_X10 ka_X10 kb_X10 k_arr rfl rfl rfl (fun h => by cases h) (List.all_eq_true.mp ob_Cp_holder e he)
theorem ok_Cp_passed : ∀ e ∈ tb_Cp_passed, a_ok aYY aBB aMX aRR 121 e.1 e.2 := fun e he => a_okb_sound (mi := 121) aYY aBB aMX aRR pa_X10 ka_X10 kb_X10 k_arr rfl rfl rfl (fun h => by cases h) (List.all_eq_true.mp ob_Cp_passed e he)
theorem ok_Cp_fewest : ∀ e ∈ tb_Cp_fewest, a_ok aYY aBB aMX aRR 122 e.1 e.2 := fun e he => a_okb_sound (mi := 122) aYY aBB aMX aRR pa_X10 ka_X10 kb_X10 k_arr rfl rfl rfl (fun h => by cases h) (List.all_eq_true.mp ob_Cp_fewest e he)
theorem ok_Cp_barred : ∀ e ∈ tb_Cp_barred, a_ok aYY aBB aMX aRR 123 e.1 e.2 := fun e he => a_okb_sound (mi := 123) aYY aBB aMX aRR pa_X10 ka_X10 kb_X10 k_arr rfl rfl rfl (fun h => by cases h) (List.all_eq_true.mp ob_Cp_barred e he)
theorem ok_Cp_made : ∀ e ∈ tb_Cp_made, a_ok aYY aBB aMX aRR 124 e.1 e.2 := fun e he => a_okb_sound (mi := 124) aYY aBB aMX aRR pa_X10 ka_X10 kb_X10 k_arr rfl rfl rfl (fun h => by cases h) (List.all_eq_true.mp ob_Cp_made e he)
theorem ok_Cp_who : ∀ e ∈ tb_Cp_who, a_ok aYY aBB aMX aRR 125 e.1 e.2 := fun e he => a_okb_sound (mi := 125) aYY aBB aMX aRR pa_X10 ka_X10 kb_X10 k_arr rfl rfl rfl (fun h => by cases h) (List.all_eq_true.mp ob_Cp_who e he)
theorem ok_Cp_sheet : ∀ e ∈ tb_Cp_sheet, a_ok aYY aBB aMX aRR 126 e.1 e.2 := fun e he => a_okb_sound (mi := 126) aYY aBB aMX aRR pa_X10 ka_X10 kb_X10 k_arr rfl rfl rfl (fun h => by cases h) (List.all_eq_true.mp ob_Cp_sheet e he)
theorem ok_Cp_copy : ∀ e ∈ tb_Cp_copy, a_ok aYY aBB aMX aRR 127 e.1 e.2 := fun e he => a_okb_sound (mi := 127) aYY aBB aMX aRR pa_X10 ka_X10 kb_X10 k_arr rfl rfl rfl (fun h => by cases h) (List.all_eq_true.mp ob_Cp_copy e he)
theorem ok_Cp_show : ∀ e ∈ tb_Cp_show, a_ok aYY aBB aMX aRR 128 e.1 e.2 := fun e he => a_okb_sound (mi := 128) aYY aBB aMX aRR pa_X10 ka_X10 kb_X10 k_arr rfl rfl rfl (fun h => by cases h) (List.all_eq_true.mp ob_Cp_show e he)
theorem ok_Cp_slipped : ∀ e ∈ tb_Cp_slipped, a_ok aYY aBB aMX aRR 129 e.1 e.2 := fun e he => a_okb_sound (mi := 129) aYY aBB aMX aRR pa_X10 ka_X10 kb_X10 k_arr rfl rfl rfl (fun h => by cases h) (List.all_eq_true.mp ob_Cp_slipped e he)
theorem ok_Cp_image : ∀ e ∈ tb_Cp_image, a_ok aYY aBB aMX aRR 130 e.1 e.2 := fun e he => a_okb_sound (mi := 130) aYY aBB aMX aRR pa_X10 ka_X10 kb_X10 k_arr rfl rfl rfl (fun h => by cases h) (List.all_eq_true.mp ob_Cp_image e he)
theorem ok_Cp_back : ∀ e ∈ tb_Cp_back, a_ok aYY aBB aMX aRR 131 e.1 e.2 := fun e he => a_okb_sound (mi := 131) aYY aBB aMX aRR pa_X10 ka_X10 kb_X10 k_arr rfl rfl rfl (fun h => by cases h) (List.all_eq_true.mp ob_Cp_back e he)
theorem ok_Cp_count : ∀ e ∈ tb_Cp_count, a_ok aYY aBB aMX aRR 132 e.1 e.2 := fun e he => a_okb_sound (mi := 132) aYY aBB aMX aRR pa_X10 ka_X10 kb_X10 k_arr rfl rfl rfl (fun h => by cases h) (List.all_eq_true.mp ob_Cp_count e he)
theorem ok_Cp_status : ∀ e ∈ tb_Cp_status, a_ok aYY aBB aMX aRR 133 e.1 e.2 := fun e he => a_okb_sound (mi := 133) aYY aBB aMX aRR pa_X10 ka_X10 kb_X10 k_arr rfl rfl rfl (fun h => by cases h) (List.all_eq_true.mp ob_Cp_status e he)
theorem ok_Cp_isBeat : ∀ e ∈ tb_Cp_isBeat, a_ok aYY aBB aMX aRR 134 e.1 e.2 := fun e he => a_okb_sound (mi := 134) aYY aBB aMX aRR pa_X10 ka_X10 kb_X10 k_arr rfl rfl rfl (fun h => by cases h) (List.all_eq_true.mp ob_Cp_isBeat e he)
theorem ok_Cp_refuse : ∀ e ∈ tb_Cp_refuse, a_ok aYY aBB aMX aRR 135 e.1 e.2 := fun e he => a_okb_sound (mi := 135) aYY aBB aMX aRR pa_X10 ka_X10 kb_X10 k_arr rfl rfl rfl (fun h => by cases h) (List.all_eq_true.mp ob_Cp_refuse e he)
theorem ok_Cp_accept : ∀ e ∈ tb_Cp_accept, a_ok aYY aBB aMX aRR 136 e.1 e.2 := fun e he => a_okb_sound (mi := 136) aYY aBB aMX aRR pa_X10 ka_X10 kb_X10 k_arr rfl rfl rfl (fun h => by cases h) (List.all_eq_true.mp ob_Cp_accept e he)
theorem ok_Cp_changeHands : ∀ e ∈ tb_Cp_changeHands, a_ok aYY aBB aMX aRR 137 e.1 e.2 := fun e he => a_okb_sound (mi := 137) aYY aBB aMX aRR pa_X10 ka_X10 kb_X10 k_arr rfl rfl rfl (fun h => by cases h) (List.all_eq_true.mp ob_Cp_changeHands e he)
theorem ok_Cp_changeCast : ∀ e ∈ tb_Cp_changeCast, a_ok aYY aBB aMX aRR 138 e.1 e.2 := fun e he => a_okb_sound (mi := 138) aYY aBB aMX aRR pa_X10 ka_X10 kb_X10 k_arr rfl rfl rfl (fun h => by cases h) (List.all_eq_true.mp ob_Cp_changeCast e he)
theorem ok_Cp_canBeAsked : ∀ e ∈ tb_Cp_canBeAsked, a_ok aYY aBB aMX aRR 139 e.1 e.2 := fun e he => a_okb_sound (mi := 139) aYY aBB aMX aRR pa_X10 ka_X10 kb_X10 k_arr rfl rfl rfl (fun h => by cases h) (List.all_eq_true.mp ob_Cp_canBeAsked e he)
theorem ok_Cp_writeWord : ∀ e ∈ tb_Cp_writeWord, a_ok aYY aBB aMX aRR 140 e.1 e.2 := fun e he => a_okb_sound (mi := 140) aYY aBB aMX aRR pa_X10 ka_X10 kb_X10 k_arr rfl rfl rfl (fun h => by cases h) (List.all_eq_true.mp ob_Cp_writeWord e he)
theorem ok_Cp_takeOutline : ∀ e ∈ tb_Cp_takeOutline, a_ok aYY aBB aMX aRR 141 e.1 e.2 := fun e he => a_okb_sound (mi := 141) aYY aBB aMX aRR pa_X10 ka_X10 kb_X10 k_arr rfl rfl rfl (fun h => by cases h) (List.all_eq_true.mp ob_Cp_takeOutline e he)
theorem ok_Cp_takeSheet : ∀ e ∈ tb_Cp_takeSheet, a_ok aYY aBB aMX aRR 142 e.1 e.2 := fun e he => a_okb_sound (mi := 142) aYY aBB aMX aRR pa_X10 ka_X10 kb_X10 k_arr rfl rfl rfl (fun h => by cases h) (List.all_eq_true.mp ob_Cp_takeSheet e he)
theorem ok_Cp_countBeats : ∀ e ∈ tb_Cp_countBeats, a_ok aYY aBB aMX aRR 143 e.1 e.2 := fun e he => a_okb_sound (mi := 143) aYY aBB aMX aRR pa_X10 ka_X10 kb_X10 k_arr rfl rfl rfl (fun h => by cases h) (List.all_eq_true.mp ob_Cp_countBeats e he)
theorem ok_Mo_init : ∀ e ∈ tb_Mo_init, a_ok aYY aBB aMX aRR 144 e.1 e.2 := fun e he => a_okb_sound (mi := 144) aYY aBB aMX aRR pa_X11 ka_X11 kb_X11 k_arr rfl rfl rfl (fun _ => rfl) (List.all_eq_true.mp ob_Mo_init e he)
theorem ok_Mo_in : ∀ e ∈ tb_Mo_in, a_ok aYY aBB aMX aRR 145 e.1 e.2 := fun e he => a_okb_sound (mi := 145) aYY aBB aMX aRR pa_X11 ka_X11 kb_X11 k_arr rfl rfl rfl (fun h => by cases h) (List.all_eq_true.mp ob_Mo_in e he)
theorem ok_Mo_is : ∀ e ∈ tb_Mo_is, a_ok aYY aBB aMX aRR 146 e.1 e.2 := fun e he => a_okb_sound (mi := 146) aYY aBB aMX aRR pa_X11 ka_X11 kb_X11 k_arr rfl rfl rfl (fun h => by cases h) (List.all_eq_true.mp ob_Mo_is e he)
theorem ok_Mo_tell : ∀ e ∈ tb_Mo_tell, a_ok aYY aBB aMX aRR 147 e.1 e.2 := fun e he => a_okb_sound (mi := 147) aYY aBB aMX aRR pa_X11 ka_X11 kb_X11 k_arr rfl rfl rfl (fun h => by cases h) (List.all_eq_true.mp ob_Mo_tell e he)
theorem ok_Mo_was : ∀ e ∈ tb_Mo_was, a_ok aYY aBB aMX aRR 148 e.1 e.2 := fun e he => a_okb_sound (mi := 148) aYY aBB aMX aRR pa_X11 ka_X11 kb_X11 k_arr rfl rfl rfl (fun h => by cases h) (List.all_eq_true.mp ob_Mo_was e he)
theorem ok_Mo_change : ∀ e ∈ tb_Mo_change, a_ok aYY aBB aMX aRR 149 e.1 e.2 := fun e he => a_okb_sound (mi := 149) aYY aBB aMX aRR pa_X11 ka_X11 kb_X11 k_arr rfl rfl rfl (fun h => by cases h) (List.all_eq_true.mp ob_Mo_change e he)
theorem ok_Mo_image : ∀ e ∈ tb_Mo_image, a_ok aYY aBB aMX aRR 150 e.1 e.2 := fun e he => a_okb_sound (mi := 150) aYY aBB aMX aRR pa_X11 ka_X11 kb_X11 k_arr rfl rfl rfl (fun h => by cases h) (List.all_eq_true.mp ob_Mo_image e he)
theorem ok_Mo_back : ∀ e ∈ tb_Mo_back, a_ok aYY aBB aMX aRR 151 e.1 e.2 := fun e he => a_okb_sound (mi := 151) aYY aBB aMX aRR pa_X11 ka_X11 kb_X11 k_arr rfl rfl rfl (fun h => by cases h) (List.all_eq_true.mp ob_Mo_back e he)
theorem ok_Mo_isFigure : ∀ e ∈ tb_Mo_isFigure, a_ok aYY aBB aMX aRR 152 e.1 e.2 := fun e he => a_okb_sound (mi := 152) aYY aBB aMX aRR pa_X11 ka_X11 kb_X11 k_arr rfl rfl rfl (fun h => by cases h) (List.all_eq_true.mp ob_Mo_isFigure e he)
theorem ok_Mo_isBeat : ∀ e ∈ tb_Mo_isBeat, a_ok aYY aBB aMX aRR 153 e.1 e.2 := fun e he => a_okb_sound (mi := 153) aYY aBB aMX aRR pa_X11 ka_X11 kb_X11 k_arr rfl rfl rfl (fun h => by cases h) (List.all_eq_true.mp ob_Mo_isBeat e he)
theorem ok_Mo_term : ∀ e ∈ tb_Mo_term, a_ok aYY aBB aMX aRR 154 e.1 e.2 := fun e he => a_okb_sound (mi := 154) aYY aBB aMX aRR pa_X11 ka_X11 kb_X11 k_arr rfl rfl rfl (fun h => by cases h) (List.all_eq_true.mp ob_Mo_term e he)
theorem ok_Mo_placeOf : ∀ e ∈ tb_Mo_placeOf, a_ok aYY aBB aMX aRR 155 e.1 e.2 := fun e he => a_okb_sound (mi := 155) aYY aBB aMX aRR pa_X11 ka_X11 kb_X11 k_arr rfl rfl rfl (fun h => by cases h) (List.all_eq_true.mp ob_Mo_placeOf e he)
theorem ok_Mo_isOn : ∀ e ∈ tb_Mo_isOn, a_ok aYY aBB aMX aRR 156 e.1 e.2 := fun e he => a_okb_sound (mi := 156) aYY aBB aMX aRR pa_X11 ka_X11 kb_X11 k_arr rfl rfl rfl (fun h => by cases h) (List.all_eq_true.mp ob_Mo_isOn e he)
theorem ok_Mo_deepOf : ∀ e ∈ tb_Mo_deepOf, a_ok aYY aBB aMX aRR 157 e.1 e.2 := fun e he => a_okb_sound (mi := 157) aYY aBB aMX aRR pa_X11 ka_X11 kb_X11 k_arr rfl rfl rfl (fun h => by cases h) (List.all_eq_true.mp ob_Mo_deepOf e he)
theorem ok_Mo_figure : ∀ e ∈ tb_Mo_figure, a_ok aYY aBB aMX aRR 158 e.1 e.2 := fun e he => a_okb_sound (mi := 158) aYY aBB aMX aRR pa_X11 ka_X11 kb_X11 k_arr rfl rfl rfl (fun h => by cases h) (List.all_eq_true.mp ob_Mo_figure e he)
theorem ok_Mo_sticks : ∀ e ∈ tb_Mo_sticks, a_ok aYY aBB aMX aRR 159 e.1 e.2 := fun e he => a_okb_sound (mi := 159) aYY aBB aMX aRR pa_X11 ka_X11 kb_X11 k_arr rfl rfl rfl (fun h => by cases h) (List.all_eq_true.mp ob_Mo_sticks e he)
theorem ok_Mo_isTerm : ∀ e ∈ tb_Mo_isTerm, a_ok aYY aBB aMX aRR 160 e.1 e.2 := fun e he => a_okb_sound (mi := 160) aYY aBB aMX aRR pa_X11 ka_X11 kb_X11 k_arr rfl rfl rfl (fun h => by cases h) (List.all_eq_true.mp ob_Mo_isTerm e he)
theorem ok_Mo_terms : ∀ e ∈ tb_Mo_terms, a_ok aYY aBB aMX aRR 161 e.1 e.2 := fun e he => a_okb_sound (mi := 161) aYY aBB aMX aRR pa_X11 ka_X11 kb_X11 k_arr rfl rfl rfl (fun h => by cases h) (List.all_eq_true.mp ob_Mo_terms e he)
theorem ok_Mo_put : ∀ e ∈ tb_Mo_put, a_ok aYY aBB aMX aRR 162 e.1 e.2 := fun e he => a_okb_sound (mi := 162) aYY aBB aMX aRR pa_X11 ka_X11 kb_X11 k_arr rfl rfl rfl (fun h => by cases h) (List.all_eq_true.mp ob_Mo_put e he)
theorem ok_Mo_on : ∀ e ∈ tb_Mo_on, a_ok aYY aBB aMX aRR 163 e.1 e.2 := fun e he => a_okb_sound (mi := 163) aYY aBB aMX aRR pa_X11 ka_X11 kb_X11 k_arr rfl rfl rfl (fun h => by cases h) (List.all_eq_true.mp ob_Mo_on e he)
theorem ok_Mo_off : ∀ e ∈ tb_Mo_off, a_ok aYY aBB aMX aRR 164 e.1 e.2 := fun e he => a_okb_sound (mi := 164) aYY aBB aMX aRR pa_X11 ka_X11 kb_X11 k_arr rfl rfl rfl (fun h => by cases h) (List.all_eq_true.mp ob_Mo_off e he)
theorem ok_Mo_of : ∀ e ∈ tb_Mo_of, a_ok aYY aBB aMX aRR 165 e.1 e.2 := fun e he => a_okb_sound (mi := 165) aYY aBB aMX aRR pa_X11 ka_X11 kb_X11 k_arr rfl rfl rfl (fun h => by cases h) (List.all_eq_true.mp ob_Mo_of e he)
theorem ok_Mo_bits : ∀ e ∈ tb_Mo_bits, a_ok aYY aBB aMX aRR 166 e.1 e.2 := fun e he => a_okb_sound (mi := 166) aYY aBB aMX aRR pa_X11 ka_X11 kb_X11 k_arr rfl rfl rfl (fun h => by cases h) (List.all_eq_true.mp ob_Mo_bits e he)
theorem ok_Mo_row : ∀ e ∈ tb_Mo_row, a_ok aYY aBB aMX aRR 167 e.1 e.2 := fun e he => a_okb_sound (mi := 167) aYY aBB aMX aRR pa_X11 ka_X11 kb_X11 k_arr rfl rfl rfl (fun h => by cases h) (List.all_eq_true.mp ob_Mo_row e he)
theorem ok_Mo_torn : ∀ e ∈ tb_Mo_torn, a_ok aYY aBB aMX aRR 168 e.1 e.2 := fun e he => a_okb_sound (mi := 168) aYY aBB aMX aRR pa_X11 ka_X11 kb_X11 k_arr rfl rfl rfl (fun h => by cases h) (List.all_eq_true.mp ob_Mo_torn e he)
theorem ok_Mo_outline : ∀ e ∈ tb_Mo_outline, a_ok aYY aBB aMX aRR 169 e.1 e.2 := fun e he => a_okb_sound (mi := 169) aYY aBB aMX aRR pa_X11 ka_X11 kb_X11 k_arr rfl rfl rfl (fun h => by cases h) (List.all_eq_true.mp ob_Mo_outline e he)
theorem ok_Mo_sheet : ∀ e ∈ tb_Mo_sheet, a_ok aYY aBB aMX aRR 170 e.1 e.2 := fun e he => a_okb_sound (mi := 170) aYY aBB aMX aRR pa_X11 ka_X11 kb_X11 k_arr rfl rfl rfl (fun h => by cases h) (List.all_eq_true.mp ob_Mo_sheet e he)
theorem ok_Mo_four : ∀ e ∈ tb_Mo_four, a_ok aYY aBB aMX aRR 171 e.1 e.2 := fun e he => a_okb_sound (mi := 171) aYY aBB aMX aRR pa_X11 ka_X11 kb_X11 k_arr rfl rfl rfl (fun h => by cases h) (List.all_eq_true.mp ob_Mo_four e he)
theorem ok_Mo_feed : ∀ e ∈ tb_Mo_feed, a_ok aYY aBB aMX aRR 172 e.1 e.2 := fun e he => a_okb_sound (mi := 172) aYY aBB aMX aRR pa_X11 ka_X11 kb_X11 k_arr rfl rfl rfl (fun h => by cases h) (List.all_eq_true.mp ob_Mo_feed e he)
theorem ok_Mo_end : ∀ e ∈ tb_Mo_end, a_ok aYY aBB aMX aRR 173 e.1 e.2 := fun e he => a_okb_sound (mi := 173) aYY aBB aMX aRR pa_X11 ka_X11 kb_X11 k_arr rfl rfl rfl (fun h => by cases h) (List.all_eq_true.mp ob_Mo_end e he)
theorem ok_Mo_isSmall : ∀ e ∈ tb_Mo_isSmall, a_ok aYY aBB aMX aRR 174 e.1 e.2 := fun e he => a_okb_sound (mi := 174) aYY aBB aMX aRR pa_X11 ka_X11 kb_X11 k_arr rfl rfl rfl (fun h => by cases h) (List.all_eq_true.mp ob_Mo_isSmall e he)
theorem ok_Mo_isDigit : ∀ e ∈ tb_Mo_isDigit, a_ok aYY aBB aMX aRR 175 e.1 e.2 := fun e he => a_okb_sound (mi := 175) aYY aBB aMX aRR pa_X11 ka_X11 kb_X11 k_arr rfl rfl rfl (fun h => by cases h) (List.all_eq_true.mp ob_Mo_isDigit e he)
theorem ok_Mo_begin : ∀ e ∈ tb_Mo_begin, a_ok aYY aBB aMX aRR 176 e.1 e.2 := fun e he => a_okb_sound (mi := 176) aYY aBB aMX aRR pa_X11 ka_X11 kb_X11 k_arr rfl rfl rfl (fun h => by cases h) (List.all_eq_true.mp ob_Mo_begin e he)
theorem ok_Mo_next : ∀ e ∈ tb_Mo_next, a_ok aYY aBB aMX aRR 177 e.1 e.2 := fun e he => a_okb_sound (mi := 177) aYY aBB aMX aRR pa_X11 ka_X11 kb_X11 k_arr rfl rfl rfl (fun h => by cases h) (List.all_eq_true.mp ob_Mo_next e he)
theorem ok_Mo_isWord : ∀ e ∈ tb_Mo_isWord, a_ok aYY aBB aMX aRR 178 e.1 e.2 := fun e he => a_okb_sound (mi := 178) aYY aBB aMX aRR pa_X11 ka_X11 kb_X11 k_arr rfl rfl rfl (fun h => by cases h) (List.all_eq_true.mp ob_Mo_isWord e he)
theorem ok_Mo_isSign : ∀ e ∈ tb_Mo_isSign, a_ok aYY aBB aMX aRR 179 e.1 e.2 := fun e he => a_okb_sound (mi := 179) aYY aBB aMX aRR pa_X11 ka_X11 kb_X11 k_arr rfl rfl rfl (fun h => by cases h) (List.all_eq_true.mp ob_Mo_isSign e he)
theorem ok_Mo_must : ∀ e ∈ tb_Mo_must, a_ok aYY aBB aMX aRR 180 e.1 e.2 := fun e he => a_okb_sound (mi := 180) aYY aBB aMX aRR pa_X11 ka_X11 kb_X11 k_arr rfl rfl rfl (fun h => by cases h) (List.all_eq_true.mp ob_Mo_must e he)
theorem ok_Mo_number : ∀ e ∈ tb_Mo_number, a_ok aYY aBB aMX aRR 181 e.1 e.2 := fun e he => a_okb_sound (mi := 181) aYY aBB aMX aRR pa_X11 ka_X11 kb_X11 k_arr rfl rfl rfl (fun h => by cases h) (List.all_eq_true.mp ob_Mo_number e he)
theorem ok_Mo_fault : ∀ e ∈ tb_Mo_fault, a_ok aYY aBB aMX aRR 182 e.1 e.2 := fun e he => a_okb_sound (mi := 182) aYY aBB aMX aRR pa_X11 ka_X11 kb_X11 k_arr rfl rfl rfl (fun h => by cases h) (List.all_eq_true.mp ob_Mo_fault e he)
theorem ok_Mo_emit : ∀ e ∈ tb_Mo_emit, a_ok aYY aBB aMX aRR 183 e.1 e.2 := fun e he => a_okb_sound (mi := 183) aYY aBB aMX aRR pa_X11 ka_X11 kb_X11 k_arr rfl rfl rfl (fun h => by cases h) (List.all_eq_true.mp ob_Mo_emit e he)
theorem ok_Mo_push : ∀ e ∈ tb_Mo_push, a_ok aYY aBB aMX aRR 184 e.1 e.2 := fun e he => a_okb_sound (mi := 184) aYY aBB aMX aRR pa_X11 ka_X11 kb_X11 k_arr rfl rfl rfl (fun h => by cases h) (List.all_eq_true.mp ob_Mo_push e he)
theorem ok_Mo_binds : ∀ e ∈ tb_Mo_binds, a_ok aYY aBB aMX aRR 185 e.1 e.2 := fun e he => a_okb_sound (mi := 185) aYY aBB aMX aRR pa_X11 ka_X11 kb_X11 k_arr rfl rfl rfl (fun h => by cases h) (List.all_eq_true.mp ob_Mo_binds e he)
theorem ok_Mo_settle : ∀ e ∈ tb_Mo_settle, a_ok aYY aBB aMX aRR 186 e.1 e.2 := fun e he => a_okb_sound (mi := 186) aYY aBB aMX aRR pa_X11 ka_X11 kb_X11 k_arr rfl rfl rfl (fun h => by cases h) (List.all_eq_true.mp ob_Mo_settle e he)
theorem ok_Mo_inner : ∀ e ∈ tb_Mo_inner, a_ok aYY aBB aMX aRR 187 e.1 e.2 := fun e he => a_okb_sound (mi := 187) aYY aBB aMX aRR pa_X11 ka_X11 kb_X11 k_arr rfl rfl rfl (fun h => by cases h) (List.all_eq_true.mp ob_Mo_inner e he)
theorem ok_Mo_isCompared : ∀ e ∈ tb_Mo_isCompared, a_ok aYY aBB aMX aRR 188 e.1 e.2 := fun e he => a_okb_sound (mi := 188) aYY aBB aMX aRR pa_X11 ka_X11 kb_X11 k_arr rfl rfl rfl (fun h => by cases h) (List.all_eq_true.mp ob_Mo_isCompared e he)
theorem ok_Mo_partAt : ∀ e ∈ tb_Mo_partAt, a_ok aYY aBB aMX aRR 189 e.1 e.2 := fun e he => a_okb_sound (mi := 189) aYY aBB aMX aRR pa_X11 ka_X11 kb_X11 k_arr rfl rfl rfl (fun h => by cases h) (List.all_eq_true.mp ob_Mo_partAt e he)
theorem ok_Mo_openBracket : ∀ e ∈ tb_Mo_openBracket, a_ok aYY aBB aMX aRR 190 e.1 e.2 := fun e he => a_okb_sound (mi := 190) aYY aBB aMX aRR pa_X11 ka_X11 kb_X11 k_arr rfl rfl rfl (fun h => by cases h) (List.all_eq_true.mp ob_Mo_openBracket e he)
theorem ok_Mo_leaf : ∀ e ∈ tb_Mo_leaf, a_ok aYY aBB aMX aRR 191 e.1 e.2 := fun e he => a_okb_sound (mi := 191) aYY aBB aMX aRR pa_X11 ka_X11 kb_X11 k_arr rfl rfl rfl (fun h => by cases h) (List.all_eq_true.mp ob_Mo_leaf e he)
theorem ok_Mo_readPart : ∀ e ∈ tb_Mo_readPart, a_ok aYY aBB aMX aRR 192 e.1 e.2 := fun e he => a_okb_sound (mi := 192) aYY aBB aMX aRR pa_X11 ka_X11 kb_X11 k_arr rfl rfl rfl (fun h => by cases h) (List.all_eq_true.mp ob_Mo_readPart e he)
theorem ok_Mo_readPlain : ∀ e ∈ tb_Mo_readPlain, a_ok aYY aBB aMX aRR 193 e.1 e.2 := fun e he => a_okb_sound (mi := 193) aYY aBB aMX aRR pa_X11 ka_X11 kb_X11 k_arr rfl rfl rfl (fun h => by cases h) (List.all_eq_true.mp ob_Mo_readPlain e he)
theorem ok_Mo_behindSum : ∀ e ∈ tb_Mo_behindSum, a_ok aYY aBB aMX aRR 194 e.1 e.2 := fun e he => a_okb_sound (mi := 194) aYY aBB aMX aRR pa_X11 ka_X11 kb_X11 k_arr rfl rfl rfl (fun h => by cases h) (List.all_eq_true.mp ob_Mo_behindSum e he)
theorem ok_Mo_behindTest : ∀ e ∈ tb_Mo_behindTest, a_ok aYY aBB aMX aRR 195 e.1 e.2 := fun e he => a_okb_sound (mi := 195) aYY aBB aMX aRR pa_X11 ka_X11 kb_X11 k_arr rfl rfl rfl (fun h => by cases h) (List.all_eq_true.mp ob_Mo_behindTest e he)
theorem ok_Mo_readExpression : ∀ e ∈ tb_Mo_readExpression, a_ok aYY aBB aMX aRR 196 e.1 e.2 := fun e he => a_okb_sound (mi := 196) aYY aBB aMX aRR pa_X11 ka_X11 kb_X11 k_arr rfl rfl rfl (fun h => by cases h) (List.all_eq_true.mp ob_Mo_readExpression e he)
theorem ok_Mo_readBeat : ∀ e ∈ tb_Mo_readBeat, a_ok aYY aBB aMX aRR 197 e.1 e.2 := fun e he => a_okb_sound (mi := 197) aYY aBB aMX aRR pa_X11 ka_X11 kb_X11 k_arr rfl rfl rfl (fun h => by cases h) (List.all_eq_true.mp ob_Mo_readBeat e he)
theorem ok_Mo_readClause : ∀ e ∈ tb_Mo_readClause, a_ok aYY aBB aMX aRR 198 e.1 e.2 := fun e he => a_okb_sound (mi := 198) aYY aBB aMX aRR pa_X11 ka_X11 kb_X11 k_arr rfl rfl rfl (fun h => by cases h) (List.all_eq_true.mp ob_Mo_readClause e he)
theorem ok_Mo_play : ∀ e ∈ tb_Mo_play, a_ok aYY aBB aMX aRR 199 e.1 e.2 := fun e he => a_okb_sound (mi := 199) aYY aBB aMX aRR pa_X11 ka_X11 kb_X11 k_arr rfl rfl rfl (fun h => by cases h) (List.all_eq_true.mp ob_Mo_play e he)
theorem ok_Mo_reckon : ∀ e ∈ tb_Mo_reckon, a_ok aYY aBB aMX aRR 200 e.1 e.2 := fun e he => a_okb_sound (mi := 200) aYY aBB aMX aRR pa_X11 ka_X11 kb_X11 k_arr rfl rfl rfl (fun h => by cases h) (List.all_eq_true.mp ob_Mo_reckon e he)
theorem ok_Mo_reckonAll : ∀ e ∈ tb_Mo_reckonAll, a_ok aYY aBB aMX aRR 201 e.1 e.2 := fun e he => a_okb_sound (mi := 201) aYY aBB aMX aRR pa_X11 ka_X11 kb_X11 k_arr rfl rfl rfl (fun h => by cases h) (List.all_eq_true.mp ob_Mo_reckonAll e he)
theorem ok_Mo_isSo : ∀ e ∈ tb_Mo_isSo, a_ok aYY aBB aMX aRR 202 e.1 e.2 := fun e he => a_okb_sound (mi := 202) aYY aBB aMX aRR pa_X11 ka_X11 kb_X11 k_arr rfl rfl rfl (fun h => by cases h) (List.all_eq_true.mp ob_Mo_isSo e he)
theorem ok_Mo_tells : ∀ e ∈ tb_Mo_tells, a_ok aYY aBB aMX aRR 203 e.1 e.2 := fun e he => a_okb_sound (mi := 203) aYY aBB aMX aRR pa_X11 ka_X11 kb_X11 k_arr rfl rfl rfl (fun h => by cases h) (List.all_eq_true.mp ob_Mo_tells e he)
theorem ok_Mo_shadowRow : ∀ e ∈ tb_Mo_shadowRow, a_ok aYY aBB aMX aRR 204 e.1 e.2 := fun e he => a_okb_sound (mi := 204) aYY aBB aMX aRR pa_X11 ka_X11 kb_X11 k_arr rfl rfl rfl (fun h => by cases h) (List.all_eq_true.mp ob_Mo_shadowRow e he)
theorem ok_Mo_allRow : ∀ e ∈ tb_Mo_allRow, a_ok aYY aBB aMX aRR 205 e.1 e.2 := fun e he => a_okb_sound (mi := 205) aYY aBB aMX aRR pa_X11 ka_X11 kb_X11 k_arr rfl rfl rfl (fun h => by cases h) (List.all_eq_true.mp ob_Mo_allRow e he)
theorem ok_Mo_shadow : ∀ e ∈ tb_Mo_shadow, a_ok aYY aBB aMX aRR 206 e.1 e.2 := fun e he => a_okb_sound (mi := 206) aYY aBB aMX aRR pa_X11 ka_X11 kb_X11 k_arr rfl rfl rfl (fun h => by cases h) (List.all_eq_true.mp ob_Mo_shadow e he)
theorem ok_Mo_seen : ∀ e ∈ tb_Mo_seen, a_ok aYY aBB aMX aRR 207 e.1 e.2 := fun e he => a_okb_sound (mi := 207) aYY aBB aMX aRR pa_X11 ka_X11 kb_X11 k_arr rfl rfl rfl (fun h => by cases h) (List.all_eq_true.mp ob_Mo_seen e he)
theorem ok_Mo_common : ∀ e ∈ tb_Mo_common, a_ok aYY aBB aMX aRR 208 e.1 e.2 := fun e he => a_okb_sound (mi := 208) aYY aBB aMX aRR pa_X11 ka_X11 kb_X11 k_arr rfl rfl rfl (fun h => by cases h) (List.all_eq_true.mp ob_Mo_common e he)
theorem ok_Mo_copy : ∀ e ∈ tb_Mo_copy, a_ok aYY aBB aMX aRR 209 e.1 e.2 := fun e he => a_okb_sound (mi := 209) aYY aBB aMX aRR pa_X11 ka_X11 kb_X11 k_arr rfl rfl rfl (fun h => by cases h) (List.all_eq_true.mp ob_Mo_copy e he)
theorem ok_Mo_canHold : ∀ e ∈ tb_Mo_canHold, a_ok aYY aBB aMX aRR 210 e.1 e.2 := fun e he => a_okb_sound (mi := 210) aYY aBB aMX aRR pa_X11 ka_X11 kb_X11 k_arr rfl rfl rfl (fun h => by cases h) (List.all_eq_true.mp ob_Mo_canHold e he)
theorem ok_Mo_isNear : ∀ e ∈ tb_Mo_isNear, a_ok aYY aBB aMX aRR 211 e.1 e.2 := fun e he => a_okb_sound (mi := 211) aYY aBB aMX aRR pa_X11 ka_X11 kb_X11 k_arr rfl rfl rfl (fun h => by cases h) (List.all_eq_true.mp ob_Mo_isNear e he)
theorem ok_Mo_isStill : ∀ e ∈ tb_Mo_isStill, a_ok aYY aBB aMX aRR 212 e.1 e.2 := fun e he => a_okb_sound (mi := 212) aYY aBB aMX aRR pa_X11 ka_X11 kb_X11 k_arr rfl rfl rfl (fun h => by cases h) (List.all_eq_true.mp ob_Mo_isStill e he)
theorem ok_Mo_onBits : ∀ e ∈ tb_Mo_onBits, a_ok aYY aBB aMX aRR 213 e.1 e.2 := fun e he => a_okb_sound (mi := 213) aYY aBB aMX aRR pa_X11 ka_X11 kb_X11 k_arr rfl rfl rfl (fun h => by cases h) (List.all_eq_true.mp ob_Mo_onBits e he)
theorem ok_Mo_holds : ∀ e ∈ tb_Mo_holds, a_ok aYY aBB aMX aRR 214 e.1 e.2 := fun e he => a_okb_sound (mi := 214) aYY aBB aMX aRR pa_X11 ka_X11 kb_X11 k_arr rfl rfl rfl (fun h => by cases h) (List.all_eq_true.mp ob_Mo_holds e he)
theorem ok_Mo_findCan : ∀ e ∈ tb_Mo_findCan, a_ok aYY aBB aMX aRR 215 e.1 e.2 := fun e he => a_okb_sound (mi := 215) aYY aBB aMX aRR pa_X11 ka_X11 kb_X11 k_arr rfl rfl rfl (fun h => by cases h) (List.all_eq_true.mp ob_Mo_findCan e he)
theorem ok_Mo_holderIn : ∀ e ∈ tb_Mo_holderIn, a_ok aYY aBB aMX aRR 216 e.1 e.2 := fun e he => a_okb_sound (mi := 216) aYY aBB aMX aRR pa_X11 ka_X11 kb_X11 k_arr rfl rfl rfl (fun h => by cases h) (List.all_eq_true.mp ob_Mo_holderIn e he)
theorem ok_Mo_isHolding : ∀ e ∈ tb_Mo_isHolding, a_ok aYY aBB aMX aRR 217 e.1 e.2 := fun e he => a_okb_sound (mi := 217) aYY aBB aMX aRR pa_X11 ka_X11 kb_X11 k_arr rfl rfl rfl (fun h => by cases h) (List.all_eq_true.mp ob_Mo_isHolding e he)
theorem ok_Mo_holdingsOf : ∀ e ∈ tb_Mo_holdingsOf, a_ok aYY aBB aMX aRR 218 e.1 e.2 := fun e he => a_okb_sound (mi := 218) aYY aBB aMX aRR pa_X11 ka_X11 kb_X11 k_arr rfl rfl rfl (fun h => by cases h) (List.all_eq_true.mp ob_Mo_holdingsOf e he)
theorem ok_Mo_holdings : ∀ e ∈ tb_Mo_holdings, a_ok aYY aBB aMX aRR 219 e.1 e.2 := fun e he => a_okb_sound (mi := 219) aYY aBB aMX aRR pa_X11 ka_X11 kb_X11 k_arr rfl rfl rfl (fun h => by cases h) (List.all_eq_true.mp ob_Mo_holdings e he)
theorem ok_Mo_findLeast : ∀ e ∈ tb_Mo_findLeast, a_ok aYY aBB aMX aRR 220 e.1 e.2 := fun e he => a_okb_sound (mi := 220) aYY aBB aMX aRR pa_X11 ka_X11 kb_X11 k_arr rfl rfl rfl (fun h => by cases h) (List.all_eq_true.mp ob_Mo_findLeast e he)
theorem ok_Mo_reckonBeat : ∀ e ∈ tb_Mo_reckonBeat, a_ok aYY aBB aMX aRR 221 e.1 e.2 := fun e he => a_okb_sound (mi := 221) aYY aBB aMX aRR pa_X11 ka_X11 kb_X11 k_arr rfl rfl rfl (fun h => by cases h) (List.all_eq_true.mp ob_Mo_reckonBeat e he)
theorem ok_Mo_backFigure : ∀ e ∈ tb_Mo_backFigure, a_ok aYY aBB aMX aRR 222 e.1 e.2 := fun e he => a_okb_sound (mi := 222) aYY aBB aMX aRR pa_X11 ka_X11 kb_X11 k_arr rfl rfl rfl (fun h => by cases h) (List.all_eq_true.mp ob_Mo_backFigure e he)
theorem ok_Mo_passedBetween : ∀ e ∈ tb_Mo_passedBetween, a_ok aYY aBB aMX aRR 223 e.1 e.2 := fun e he => a_okb_sound (mi := 223) aYY aBB aMX aRR pa_X11 ka_X11 kb_X11 k_arr rfl rfl rfl (fun h => by cases h) (List.all_eq_true.mp ob_Mo_passedBetween e he)
theorem ok_Mo_findFirst : ∀ e ∈ tb_Mo_findFirst, a_ok aYY aBB aMX aRR 224 e.1 e.2 := fun e he => a_okb_sound (mi := 224) aYY aBB aMX aRR pa_X11 ka_X11 kb_X11 k_arr rfl rfl rfl (fun h => by cases h) (List.all_eq_true.mp ob_Mo_findFirst e he)
theorem ok_Mo_least : ∀ e ∈ tb_Mo_least, a_ok aYY aBB aMX aRR 225 e.1 e.2 := fun e he => a_okb_sound (mi := 225) aYY aBB aMX aRR pa_X11 ka_X11 kb_X11 k_arr rfl rfl rfl (fun h => by cases h) (List.all_eq_true.mp ob_Mo_least e he)
theorem ok_Mo_holder : ∀ e ∈ tb_Mo_holder, a_ok aYY aBB aMX aRR 226 e.1 e.2 := fun e he => a_okb_sound (mi := 226) aYY aBB aMX aRR pa_X11 ka_X11 kb_X11 k_arr rfl rfl rfl (fun h => by cases h) (List.all_eq_true.mp ob_Mo_holder e he)
theorem ok_Mo_passed : ∀ e ∈ tb_Mo_passed, a_ok aYY aBB aMX aRR 227 e.1 e.2 := fun e he => a_okb_sound (mi := 227) aYY aBB aMX aRR pa_X11 ka_X11 kb_X11 k_arr rfl rfl rfl (fun h => by cases h) (List.all_eq_true.mp ob_Mo_passed e he)
theorem ok_Mo_fewest : ∀ e ∈ tb_Mo_fewest, a_ok aYY aBB aMX aRR 228 e.1 e.2 := fun e he => a_okb_sound (mi := 228) aYY aBB aMX aRR pa_X11 ka_X11 kb_X11 k_arr rfl rfl rfl (fun h => by cases h) (List.all_eq_true.mp ob_Mo_fewest e he)
theorem ok_Mo_barred : ∀ e ∈ tb_Mo_barred, a_ok aYY aBB aMX aRR 229 e.1 e.2 := fun e he => a_okb_sound (mi := 229) aYY aBB aMX aRR pa_X11 ka_X11 kb_X11 k_arr rfl rfl rfl (fun h => by cases h) (List.all_eq_true.mp ob_Mo_barred e he)
theorem ok_Mo_findCells : ∀ e ∈ tb_Mo_findCells, a_ok aYY aBB aMX aRR 230 e.1 e.2 := fun e he => a_okb_sound (mi := 230) aYY aBB aMX aRR pa_X11 ka_X11 kb_X11 k_arr rfl rfl rfl (fun h => by cases h) (List.all_eq_true.mp ob_Mo_findCells e he)
theorem ok_Mo_findShadows : ∀ e ∈ tb_Mo_findShadows, a_ok aYY aBB aMX aRR 231 e.1 e.2 := fun e he => a_okb_sound (mi := 231) aYY aBB aMX aRR pa_X11 ka_X11 kb_X11 k_arr rfl rfl rfl (fun h => by cases h) (List.all_eq_true.mp ob_Mo_findShadows e he)
theorem ok_Mo_tryPlace : ∀ e ∈ tb_Mo_tryPlace, a_ok aYY aBB aMX aRR 232 e.1 e.2 := fun e he => a_okb_sound (mi := 232) aYY aBB aMX aRR pa_X11 ka_X11 kb_X11 k_arr rfl rfl rfl (fun h => by cases h) (List.all_eq_true.mp ob_Mo_tryPlace e he)
theorem ok_Mo_findMade : ∀ e ∈ tb_Mo_findMade, a_ok aYY aBB aMX aRR 233 e.1 e.2 := fun e he => a_okb_sound (mi := 233) aYY aBB aMX aRR pa_X11 ka_X11 kb_X11 k_arr rfl rfl rfl (fun h => by cases h) (List.all_eq_true.mp ob_Mo_findMade e he)
theorem ok_Mo_maskAt : ∀ e ∈ tb_Mo_maskAt, a_ok aYY aBB aMX aRR 234 e.1 e.2 := fun e he => a_okb_sound (mi := 234) aYY aBB aMX aRR pa_X11 ka_X11 kb_X11 k_arr rfl rfl rfl (fun h => by cases h) (List.all_eq_true.mp ob_Mo_maskAt e he)
theorem ok_Mo_goOver : ∀ e ∈ tb_Mo_goOver, a_ok aYY aBB aMX aRR 235 e.1 e.2 := fun e he => a_okb_sound (mi := 235) aYY aBB aMX aRR pa_X11 ka_X11 kb_X11 k_arr rfl rfl rfl (fun h => by cases h) (List.all_eq_true.mp ob_Mo_goOver e he)
theorem ok_Mo_take : ∀ e ∈ tb_Mo_take, a_ok aYY aBB aMX aRR 236 e.1 e.2 := fun e he => a_okb_sound (mi := 236) aYY aBB aMX aRR pa_X11 ka_X11 kb_X11 k_arr rfl rfl rfl (fun h => by cases h) (List.all_eq_true.mp ob_Mo_take e he)
theorem ok_Mo_isCast : ∀ e ∈ tb_Mo_isCast, a_ok aYY aBB aMX aRR 237 e.1 e.2 := fun e he => a_okb_sound (mi := 237) aYY aBB aMX aRR pa_X11 ka_X11 kb_X11 k_arr rfl rfl rfl (fun h => by cases h) (List.all_eq_true.mp ob_Mo_isCast e he)
theorem ok_Mo_made : ∀ e ∈ tb_Mo_made, a_ok aYY aBB aMX aRR 238 e.1 e.2 := fun e he => a_okb_sound (mi := 238) aYY aBB aMX aRR pa_X11 ka_X11 kb_X11 k_arr rfl rfl rfl (fun h => by cases h) (List.all_eq_true.mp ob_Mo_made e he)
theorem ok_Mo_who : ∀ e ∈ tb_Mo_who, a_ok aYY aBB aMX aRR 239 e.1 e.2 := fun e he => a_okb_sound (mi := 239) aYY aBB aMX aRR pa_X11 ka_X11 kb_X11 k_arr rfl rfl rfl (fun h => by cases h) (List.all_eq_true.mp ob_Mo_who e he)
theorem ok_Mo_show : ∀ e ∈ tb_Mo_show, a_ok aYY aBB aMX aRR 240 e.1 e.2 := fun e he => a_okb_sound (mi := 240) aYY aBB aMX aRR pa_X11 ka_X11 kb_X11 k_arr rfl rfl rfl (fun h => by cases h) (List.all_eq_true.mp ob_Mo_show e he)
theorem ok_Mo_slipped : ∀ e ∈ tb_Mo_slipped, a_ok aYY aBB aMX aRR 241 e.1 e.2 := fun e he => a_okb_sound (mi := 241) aYY aBB aMX aRR pa_X11 ka_X11 kb_X11 k_arr rfl rfl rfl (fun h => by cases h) (List.all_eq_true.mp ob_Mo_slipped e he)
theorem ok_Mo_count : ∀ e ∈ tb_Mo_count, a_ok aYY aBB aMX aRR 242 e.1 e.2 := fun e he => a_okb_sound (mi := 242) aYY aBB aMX aRR pa_X11 ka_X11 kb_X11 k_arr rfl rfl rfl (fun h => by cases h) (List.all_eq_true.mp ob_Mo_count e he)
theorem ok_Mo_status : ∀ e ∈ tb_Mo_status, a_ok aYY aBB aMX aRR 243 e.1 e.2 := fun e he => a_okb_sound (mi := 243) aYY aBB aMX aRR pa_X11 ka_X11 kb_X11 k_arr rfl rfl rfl (fun h => by cases h) (List.all_eq_true.mp ob_Mo_status e he)
theorem ok_J_ntzI : ∀ e ∈ tb_J_ntzI, a_ok aYY aBB aMX aRR 244 e.1 e.2 := fun e he => a_okb_sound (mi := 244) aYY aBB aMX aRR pa_J6 ka_J6 kb_J6 k_arr rfl rfl rfl (fun h => by cases h) (List.all_eq_true.mp ob_J_ntzI e he)
theorem ok_J_bitI : ∀ e ∈ tb_J_bitI, a_ok aYY aBB aMX aRR 245 e.1 e.2 := fun e he => a_okb_sound (mi := 245) aYY aBB aMX aRR pa_J6 ka_J6 kb_J6 k_arr rfl rfl rfl (fun h => by cases h) (List.all_eq_true.mp ob_J_bitI e he)
theorem ok_J_ntzL : ∀ e ∈ tb_J_ntzL, a_ok aYY aBB aMX aRR 246 e.1 e.2 := fun e he => a_okb_sound (mi := 246) aYY aBB aMX aRR pa_J13 ka_J13 kb_J13 k_arr rfl rfl rfl (fun h => by cases h) (List.all_eq_true.mp ob_J_ntzL e he)
theorem ok_J_bitL : ∀ e ∈ tb_J_bitL, a_ok aYY aBB aMX aRR 247 e.1 e.2 := fun e he => a_okb_sound (mi := 247) aYY aBB aMX aRR pa_J13 ka_J13 kb_J13 k_arr rfl rfl rfl (fun h => by cases h) (List.all_eq_true.mp ob_J_bitL e he)
theorem ok_J_rng : ∀ e ∈ tb_J_rng, a_ok aYY aBB aMX aRR 248 e.1 e.2 := fun e he => a_okb_sound (mi := 248) aYY aBB aMX aRR pa_J7 ka_J7 kb_J7 k_arr rfl rfl rfl (fun h => by cases h) (List.all_eq_true.mp ob_J_rng e he)
theorem ok_J_fillL : ∀ e ∈ tb_J_fillL, a_ok aYY aBB aMX aRR 249 e.1 e.2 := fun e he => a_okb_sound (mi := 249) aYY aBB aMX aRR pa_J7 ka_J7 kb_J7 k_arr rfl rfl rfl (fun h => by cases h) (List.all_eq_true.mp ob_J_fillL e he)
theorem ok_J_fillLr : ∀ e ∈ tb_J_fillLr, a_ok aYY aBB aMX aRR 250 e.1 e.2 := fun e he => a_okb_sound (mi := 250) aYY aBB aMX aRR pa_J7 ka_J7 kb_J7 k_arr rfl rfl rfl (fun h => by cases h) (List.all_eq_true.mp ob_J_fillLr e he)
theorem ok_J_fillI : ∀ e ∈ tb_J_fillI, a_ok aYY aBB aMX aRR 251 e.1 e.2 := fun e he => a_okb_sound (mi := 251) aYY aBB aMX aRR pa_J7 ka_J7 kb_J7 k_arr rfl rfl rfl (fun h => by cases h) (List.all_eq_true.mp ob_J_fillI e he)
theorem ok_J_fillIr : ∀ e ∈ tb_J_fillIr, a_ok aYY aBB aMX aRR 252 e.1 e.2 := fun e he => a_okb_sound (mi := 252) aYY aBB aMX aRR pa_J7 ka_J7 kb_J7 k_arr rfl rfl rfl (fun h => by cases h) (List.all_eq_true.mp ob_J_fillIr e he)
theorem ok_law : ∀ e ∈ tb_law, a_ok aYY aBB aMX aRR 253 e.1 e.2 := fun e he => a_okb_sound (mi := 253) aYY aBB aMX aRR pa_L ka_L kb_L k_arr rfl rfl rfl (fun h => by cases h) (List.all_eq_true.mp ob_law e he)
abbrev okP (n : Nat) (l : List (Nat × aI)) : Prop := ∀ e ∈ l, a_ok aYY aBB aMX aRR n e.1 e.2
theorem a_nd (n k : Nat) {A B : List (Nat × aI)} (ha : k ≤ n → okP n A) (hb : n < k → okP n B) : okP n (match Nat.ble k n with
  | true => A
  | false => B) := by
  by_cases h : k ≤ n
  · rw [show Nat.ble k n = true from Nat.ble_eq.mpr h]; exact ha h
  · rw [show Nat.ble k n = false from by cases e : Nat.ble k n with | false => rfl | true => exact absurd (Nat.le_of_ble_eq_true e) h]; exact hb (by omega)
set_option maxRecDepth 100000 in
theorem ok_all (n : Nat) : okP n (aTbs n) := by
  unfold aTbs
  exact a_nd n 254 (fun _ _ h => absurd h List.not_mem_nil) (fun h254 => (a_nd n 127 (fun h127 => (a_nd n 190 (fun h190 => (a_nd n 222 (fun h222 => (a_nd n 238 (fun h238 => (a_nd n 246 (fun h246 => (a_nd n 250 (fun h250 => (a_nd n 252 (fun h252 => (a_nd n 253 (fun h253 => (by have e : n = 253 := by omega
           subst e; exact ok_law)) (fun h253 => (by have e : n = 252 := by omega
           subst e; exact ok_J_fillIr)))) (fun h252 => (a_nd n 251 (fun h251 => (by have e : n = 251 := by omega
           subst e; exact ok_J_fillI)) (fun h251 => (by have e : n = 250 := by omega
           subst e; exact ok_J_fillLr)))))) (fun h250 => (a_nd n 248 (fun h248 => (a_nd n 249 (fun h249 => (by have e : n = 249 := by omega
           subst e; exact ok_J_fillL)) (fun h249 => (by have e : n = 248 := by omega
           subst e; exact ok_J_rng)))) (fun h248 => (a_nd n 247 (fun h247 => (by have e : n = 247 := by omega
           subst e; exact ok_J_bitL)) (fun h247 => (by have e : n = 246 := by omega
           subst e; exact ok_J_ntzL)))))))) (fun h246 => (a_nd n 242 (fun h242 => (a_nd n 244 (fun h244 => (a_nd n 245 (fun h245 => (by have e : n = 245 := by omega
           subst e; exact ok_J_bitI)) (fun h245 => (by have e : n = 244 := by omega
           subst e; exact ok_J_ntzI)))) (fun h244 => (a_nd n 243 (fun h243 => (by have e : n = 243 := by omega
           subst e; exact ok_Mo_status)) (fun h243 => (by have e : n = 242 := by omega
           subst e; exact ok_Mo_count)))))) (fun h242 => (a_nd n 240 (fun h240 => (a_nd n 241 (fun h241 => (by have e : n = 241 := by omega
           subst e; exact ok_Mo_slipped)) (fun h241 => (by have e : n = 240 := by omega
           subst e; exact ok_Mo_show)))) (fun h240 => (a_nd n 239 (fun h239 => (by have e : n = 239 := by omega
           subst e; exact ok_Mo_who)) (fun h239 => (by have e : n = 238 := by omega
           subst e; exact ok_Mo_made)))))))))) (fun h238 => (a_nd n 230 (fun h230 => (a_nd n 234 (fun h234 => (a_nd n 236 (fun h236 => (a_nd n 237 (fun h237 => (by have e : n = 237 := by omega
           subst e; exact ok_Mo_isCast)) (fun h237 => (by have e : n = 236 := by omega
           subst e; exact ok_Mo_take)))) (fun h236 => (a_nd n 235 (fun h235 => (by have e : n = 235 := by omega
           subst e; exact ok_Mo_goOver)) (fun h235 => (by have e : n = 234 := by omega
           subst e; exact ok_Mo_maskAt)))))) (fun h234 => (a_nd n 232 (fun h232 => (a_nd n 233 (fun h233 => (by have e : n = 233 := by omega
           subst e; exact ok_Mo_findMade)) (fun h233 => (by have e : n = 232 := by omega
           subst e; exact ok_Mo_tryPlace)))) (fun h232 => (a_nd n 231 (fun h231 => (by have e : n = 231 := by omega
           subst e; exact ok_Mo_findShadows)) (fun h231 => (by have e : n = 230 := by omega
           subst e; exact ok_Mo_findCells)))))))) (fun h230 => (a_nd n 226 (fun h226 => (a_nd n 228 (fun h228 => (a_nd n 229 (fun h229 => (by have e : n = 229 := by omega
           subst e; exact ok_Mo_barred)) (fun h229 => (by have e : n = 228 := by omega
           subst e; exact ok_Mo_fewest)))) (fun h228 => (a_nd n 227 (fun h227 => (by have e : n = 227 := by omega
           subst e; exact ok_Mo_passed)) (fun h227 => (by have e : n = 226 := by omega
           subst e; exact ok_Mo_holder)))))) (fun h226 => (a_nd n 224 (fun h224 => (a_nd n 225 (fun h225 => (by have e : n = 225 := by omega
           subst e; exact ok_Mo_least)) (fun h225 => (by have e : n = 224 := by omega
           subst e; exact ok_Mo_findFirst)))) (fun h224 => (a_nd n 223 (fun h223 => (by have e : n = 223 := by omega
           subst e; exact ok_Mo_passedBetween)) (fun h223 => (by have e : n = 222 := by omega
           subst e; exact ok_Mo_backFigure)))))))))))) (fun h222 => (a_nd n 206 (fun h206 => (a_nd n 214 (fun h214 => (a_nd n 218 (fun h218 => (a_nd n 220 (fun h220 => (a_nd n 221 (fun h221 => (by have e : n = 221 := by omega
           subst e; exact ok_Mo_reckonBeat)) (fun h221 => (by have e : n = 220 := by omega
           subst e; exact ok_Mo_findLeast)))) (fun h220 => (a_nd n 219 (fun h219 => (by have e : n = 219 := by omega
           subst e; exact ok_Mo_holdings)) (fun h219 => (by have e : n = 218 := by omega
           subst e; exact ok_Mo_holdingsOf)))))) (fun h218 => (a_nd n 216 (fun h216 => (a_nd n 217 (fun h217 => (by have e : n = 217 := by omega
           subst e; exact ok_Mo_isHolding)) (fun h217 => (by have e : n = 216 := by omega
           subst e; exact ok_Mo_holderIn)))) (fun h216 => (a_nd n 215 (fun h215 => (by have e : n = 215 := by omega
           subst e; exact ok_Mo_findCan)) (fun h215 => (by have e : n = 214 := by omega
           subst e; exact ok_Mo_holds)))))))) (fun h214 => (a_nd n 210 (fun h210 => (a_nd n 212 (fun h212 => (a_nd n 213 (fun h213 => (by have e : n = 213 := by omega
           subst e; exact ok_Mo_onBits)) (fun h213 => (by have e : n = 212 := by omega
           subst e; exact ok_Mo_isStill)))) (fun h212 => (a_nd n 211 (fun h211 => (by have e : n = 211 := by omega
           subst e; exact ok_Mo_isNear)) (fun h211 => (by have e : n = 210 := by omega
           subst e; exact ok_Mo_canHold)))))) (fun h210 => (a_nd n 208 (fun h208 => (a_nd n 209 (fun h209 => (by have e : n = 209 := by omega
           subst e; exact ok_Mo_copy)) (fun h209 => (by have e : n = 208 := by omega
           subst e; exact ok_Mo_common)))) (fun h208 => (a_nd n 207 (fun h207 => (by have e : n = 207 := by omega
           subst e; exact ok_Mo_seen)) (fun h207 => (by have e : n = 206 := by omega
           subst e; exact ok_Mo_shadow)))))))))) (fun h206 => (a_nd n 198 (fun h198 => (a_nd n 202 (fun h202 => (a_nd n 204 (fun h204 => (a_nd n 205 (fun h205 => (by have e : n = 205 := by omega
           subst e; exact ok_Mo_allRow)) (fun h205 => (by have e : n = 204 := by omega
           subst e; exact ok_Mo_shadowRow)))) (fun h204 => (a_nd n 203 (fun h203 => (by have e : n = 203 := by omega
           subst e; exact ok_Mo_tells)) (fun h203 => (by have e : n = 202 := by omega
           subst e; exact ok_Mo_isSo)))))) (fun h202 => (a_nd n 200 (fun h200 => (a_nd n 201 (fun h201 => (by have e : n = 201 := by omega
           subst e; exact ok_Mo_reckonAll)) (fun h201 => (by have e : n = 200 := by omega
           subst e; exact ok_Mo_reckon)))) (fun h200 => (a_nd n 199 (fun h199 => (by have e : n = 199 := by omega
           subst e; exact ok_Mo_play)) (fun h199 => (by have e : n = 198 := by omega
           subst e; exact ok_Mo_readClause)))))))) (fun h198 => (a_nd n 194 (fun h194 => (a_nd n 196 (fun h196 => (a_nd n 197 (fun h197 => (by have e : n = 197 := by omega
           subst e; exact ok_Mo_readBeat)) (fun h197 => (by have e : n = 196 := by omega
           subst e; exact ok_Mo_readExpression)))) (fun h196 => (a_nd n 195 (fun h195 => (by have e : n = 195 := by omega
           subst e; exact ok_Mo_behindTest)) (fun h195 => (by have e : n = 194 := by omega
           subst e; exact ok_Mo_behindSum)))))) (fun h194 => (a_nd n 192 (fun h192 => (a_nd n 193 (fun h193 => (by have e : n = 193 := by omega
           subst e; exact ok_Mo_readPlain)) (fun h193 => (by have e : n = 192 := by omega
           subst e; exact ok_Mo_readPart)))) (fun h192 => (a_nd n 191 (fun h191 => (by have e : n = 191 := by omega
           subst e; exact ok_Mo_leaf)) (fun h191 => (by have e : n = 190 := by omega
           subst e; exact ok_Mo_openBracket)))))))))))))) (fun h190 => (a_nd n 158 (fun h158 => (a_nd n 174 (fun h174 => (a_nd n 182 (fun h182 => (a_nd n 186 (fun h186 => (a_nd n 188 (fun h188 => (a_nd n 189 (fun h189 => (by have e : n = 189 := by omega
           subst e; exact ok_Mo_partAt)) (fun h189 => (by have e : n = 188 := by omega
           subst e; exact ok_Mo_isCompared)))) (fun h188 => (a_nd n 187 (fun h187 => (by have e : n = 187 := by omega
           subst e; exact ok_Mo_inner)) (fun h187 => (by have e : n = 186 := by omega
           subst e; exact ok_Mo_settle)))))) (fun h186 => (a_nd n 184 (fun h184 => (a_nd n 185 (fun h185 => (by have e : n = 185 := by omega
           subst e; exact ok_Mo_binds)) (fun h185 => (by have e : n = 184 := by omega
           subst e; exact ok_Mo_push)))) (fun h184 => (a_nd n 183 (fun h183 => (by have e : n = 183 := by omega
           subst e; exact ok_Mo_emit)) (fun h183 => (by have e : n = 182 := by omega
           subst e; exact ok_Mo_fault)))))))) (fun h182 => (a_nd n 178 (fun h178 => (a_nd n 180 (fun h180 => (a_nd n 181 (fun h181 => (by have e : n = 181 := by omega
           subst e; exact ok_Mo_number)) (fun h181 => (by have e : n = 180 := by omega
           subst e; exact ok_Mo_must)))) (fun h180 => (a_nd n 179 (fun h179 => (by have e : n = 179 := by omega
           subst e; exact ok_Mo_isSign)) (fun h179 => (by have e : n = 178 := by omega
           subst e; exact ok_Mo_isWord)))))) (fun h178 => (a_nd n 176 (fun h176 => (a_nd n 177 (fun h177 => (by have e : n = 177 := by omega
           subst e; exact ok_Mo_next)) (fun h177 => (by have e : n = 176 := by omega
           subst e; exact ok_Mo_begin)))) (fun h176 => (a_nd n 175 (fun h175 => (by have e : n = 175 := by omega
           subst e; exact ok_Mo_isDigit)) (fun h175 => (by have e : n = 174 := by omega
           subst e; exact ok_Mo_isSmall)))))))))) (fun h174 => (a_nd n 166 (fun h166 => (a_nd n 170 (fun h170 => (a_nd n 172 (fun h172 => (a_nd n 173 (fun h173 => (by have e : n = 173 := by omega
           subst e; exact ok_Mo_end)) (fun h173 => (by have e : n = 172 := by omega
           subst e; exact ok_Mo_feed)))) (fun h172 => (a_nd n 171 (fun h171 => (by have e : n = 171 := by omega
           subst e; exact ok_Mo_four)) (fun h171 => (by have e : n = 170 := by omega
           subst e; exact ok_Mo_sheet)))))) (fun h170 => (a_nd n 168 (fun h168 => (a_nd n 169 (fun h169 => (by have e : n = 169 := by omega
           subst e; exact ok_Mo_outline)) (fun h169 => (by have e : n = 168 := by omega
           subst e; exact ok_Mo_torn)))) (fun h168 => (a_nd n 167 (fun h167 => (by have e : n = 167 := by omega
           subst e; exact ok_Mo_row)) (fun h167 => (by have e : n = 166 := by omega
           subst e; exact ok_Mo_bits)))))))) (fun h166 => (a_nd n 162 (fun h162 => (a_nd n 164 (fun h164 => (a_nd n 165 (fun h165 => (by have e : n = 165 := by omega
           subst e; exact ok_Mo_of)) (fun h165 => (by have e : n = 164 := by omega
           subst e; exact ok_Mo_off)))) (fun h164 => (a_nd n 163 (fun h163 => (by have e : n = 163 := by omega
           subst e; exact ok_Mo_on)) (fun h163 => (by have e : n = 162 := by omega
           subst e; exact ok_Mo_put)))))) (fun h162 => (a_nd n 160 (fun h160 => (a_nd n 161 (fun h161 => (by have e : n = 161 := by omega
           subst e; exact ok_Mo_terms)) (fun h161 => (by have e : n = 160 := by omega
           subst e; exact ok_Mo_isTerm)))) (fun h160 => (a_nd n 159 (fun h159 => (by have e : n = 159 := by omega
           subst e; exact ok_Mo_sticks)) (fun h159 => (by have e : n = 158 := by omega
           subst e; exact ok_Mo_figure)))))))))))) (fun h158 => (a_nd n 142 (fun h142 => (a_nd n 150 (fun h150 => (a_nd n 154 (fun h154 => (a_nd n 156 (fun h156 => (a_nd n 157 (fun h157 => (by have e : n = 157 := by omega
           subst e; exact ok_Mo_deepOf)) (fun h157 => (by have e : n = 156 := by omega
           subst e; exact ok_Mo_isOn)))) (fun h156 => (a_nd n 155 (fun h155 => (by have e : n = 155 := by omega
           subst e; exact ok_Mo_placeOf)) (fun h155 => (by have e : n = 154 := by omega
           subst e; exact ok_Mo_term)))))) (fun h154 => (a_nd n 152 (fun h152 => (a_nd n 153 (fun h153 => (by have e : n = 153 := by omega
           subst e; exact ok_Mo_isBeat)) (fun h153 => (by have e : n = 152 := by omega
           subst e; exact ok_Mo_isFigure)))) (fun h152 => (a_nd n 151 (fun h151 => (by have e : n = 151 := by omega
           subst e; exact ok_Mo_back)) (fun h151 => (by have e : n = 150 := by omega
           subst e; exact ok_Mo_image)))))))) (fun h150 => (a_nd n 146 (fun h146 => (a_nd n 148 (fun h148 => (a_nd n 149 (fun h149 => (by have e : n = 149 := by omega
           subst e; exact ok_Mo_change)) (fun h149 => (by have e : n = 148 := by omega
           subst e; exact ok_Mo_was)))) (fun h148 => (a_nd n 147 (fun h147 => (by have e : n = 147 := by omega
           subst e; exact ok_Mo_tell)) (fun h147 => (by have e : n = 146 := by omega
           subst e; exact ok_Mo_is)))))) (fun h146 => (a_nd n 144 (fun h144 => (a_nd n 145 (fun h145 => (by have e : n = 145 := by omega
           subst e; exact ok_Mo_in)) (fun h145 => (by have e : n = 144 := by omega
           subst e; exact ok_Mo_init)))) (fun h144 => (a_nd n 143 (fun h143 => (by have e : n = 143 := by omega
           subst e; exact ok_Cp_countBeats)) (fun h143 => (by have e : n = 142 := by omega
           subst e; exact ok_Cp_takeSheet)))))))))) (fun h142 => (a_nd n 134 (fun h134 => (a_nd n 138 (fun h138 => (a_nd n 140 (fun h140 => (a_nd n 141 (fun h141 => (by have e : n = 141 := by omega
           subst e; exact ok_Cp_takeOutline)) (fun h141 => (by have e : n = 140 := by omega
           subst e; exact ok_Cp_writeWord)))) (fun h140 => (a_nd n 139 (fun h139 => (by have e : n = 139 := by omega
           subst e; exact ok_Cp_canBeAsked)) (fun h139 => (by have e : n = 138 := by omega
           subst e; exact ok_Cp_changeCast)))))) (fun h138 => (a_nd n 136 (fun h136 => (a_nd n 137 (fun h137 => (by have e : n = 137 := by omega
           subst e; exact ok_Cp_changeHands)) (fun h137 => (by have e : n = 136 := by omega
           subst e; exact ok_Cp_accept)))) (fun h136 => (a_nd n 135 (fun h135 => (by have e : n = 135 := by omega
           subst e; exact ok_Cp_refuse)) (fun h135 => (by have e : n = 134 := by omega
           subst e; exact ok_Cp_isBeat)))))))) (fun h134 => (a_nd n 130 (fun h130 => (a_nd n 132 (fun h132 => (a_nd n 133 (fun h133 => (by have e : n = 133 := by omega
           subst e; exact ok_Cp_status)) (fun h133 => (by have e : n = 132 := by omega
           subst e; exact ok_Cp_count)))) (fun h132 => (a_nd n 131 (fun h131 => (by have e : n = 131 := by omega
           subst e; exact ok_Cp_back)) (fun h131 => (by have e : n = 130 := by omega
           subst e; exact ok_Cp_image)))))) (fun h130 => (a_nd n 128 (fun h128 => (a_nd n 129 (fun h129 => (by have e : n = 129 := by omega
           subst e; exact ok_Cp_slipped)) (fun h129 => (by have e : n = 128 := by omega
           subst e; exact ok_Cp_show)))) (fun h128 => (by have e : n = 127 := by omega
           subst e; exact ok_Cp_copy)))))))))))))) (fun h127 => (a_nd n 63 (fun h63 => (a_nd n 95 (fun h95 => (a_nd n 111 (fun h111 => (a_nd n 119 (fun h119 => (a_nd n 123 (fun h123 => (a_nd n 125 (fun h125 => (a_nd n 126 (fun h126 => (by have e : n = 126 := by omega
           subst e; exact ok_Cp_sheet)) (fun h126 => (by have e : n = 125 := by omega
           subst e; exact ok_Cp_who)))) (fun h125 => (a_nd n 124 (fun h124 => (by have e : n = 124 := by omega
           subst e; exact ok_Cp_made)) (fun h124 => (by have e : n = 123 := by omega
           subst e; exact ok_Cp_barred)))))) (fun h123 => (a_nd n 121 (fun h121 => (a_nd n 122 (fun h122 => (by have e : n = 122 := by omega
           subst e; exact ok_Cp_fewest)) (fun h122 => (by have e : n = 121 := by omega
           subst e; exact ok_Cp_passed)))) (fun h121 => (a_nd n 120 (fun h120 => (by have e : n = 120 := by omega
           subst e; exact ok_Cp_holder)) (fun h120 => (by have e : n = 119 := by omega
           subst e; exact ok_Cp_least)))))))) (fun h119 => (a_nd n 115 (fun h115 => (a_nd n 117 (fun h117 => (a_nd n 118 (fun h118 => (by have e : n = 118 := by omega
           subst e; exact ok_Cp_holdings)) (fun h118 => (by have e : n = 117 := by omega
           subst e; exact ok_Cp_holds)))) (fun h117 => (a_nd n 116 (fun h116 => (by have e : n = 116 := by omega
           subst e; exact ok_Cp_common)) (fun h116 => (by have e : n = 115 := by omega
           subst e; exact ok_Cp_seen)))))) (fun h115 => (a_nd n 113 (fun h113 => (a_nd n 114 (fun h114 => (by have e : n = 114 := by omega
           subst e; exact ok_Cp_shadow)) (fun h114 => (by have e : n = 113 := by omega
           subst e; exact ok_Cp_fault)))) (fun h113 => (a_nd n 112 (fun h112 => (by have e : n = 112 := by omega
           subst e; exact ok_Cp_play)) (fun h112 => (by have e : n = 111 := by omega
           subst e; exact ok_Cp_outline)))))))))) (fun h111 => (a_nd n 103 (fun h103 => (a_nd n 107 (fun h107 => (a_nd n 109 (fun h109 => (a_nd n 110 (fun h110 => (by have e : n = 110 := by omega
           subst e; exact ok_Cp_torn)) (fun h110 => (by have e : n = 109 := by omega
           subst e; exact ok_Cp_row)))) (fun h109 => (a_nd n 108 (fun h108 => (by have e : n = 108 := by omega
           subst e; exact ok_Cp_end)) (fun h108 => (by have e : n = 107 := by omega
           subst e; exact ok_Cp_feed)))))) (fun h107 => (a_nd n 105 (fun h105 => (a_nd n 106 (fun h106 => (by have e : n = 106 := by omega
           subst e; exact ok_Cp_of)) (fun h106 => (by have e : n = 105 := by omega
           subst e; exact ok_Cp_off)))) (fun h105 => (a_nd n 104 (fun h104 => (by have e : n = 104 := by omega
           subst e; exact ok_Cp_on)) (fun h104 => (by have e : n = 103 := by omega
           subst e; exact ok_Cp_terms)))))))) (fun h103 => (a_nd n 99 (fun h99 => (a_nd n 101 (fun h101 => (a_nd n 102 (fun h102 => (by have e : n = 102 := by omega
           subst e; exact ok_Cp_sticks)) (fun h102 => (by have e : n = 101 := by omega
           subst e; exact ok_Cp_figure)))) (fun h101 => (a_nd n 100 (fun h100 => (by have e : n = 100 := by omega
           subst e; exact ok_Cp_init)) (fun h100 => (by have e : n = 99 := by omega
           subst e; exact ok_Target_lookFrom)))))) (fun h99 => (a_nd n 97 (fun h97 => (a_nd n 98 (fun h98 => (by have e : n = 98 := by omega
           subst e; exact ok_Target_lookAt)) (fun h98 => (by have e : n = 97 := by omega
           subst e; exact ok_Target_init)))) (fun h97 => (a_nd n 96 (fun h96 => (by have e : n = 96 := by omega
           subst e; exact ok_Script_takeFrom)) (fun h96 => (by have e : n = 95 := by omega
           subst e; exact ok_Script_endLaw)))))))))))) (fun h95 => (a_nd n 79 (fun h79 => (a_nd n 87 (fun h87 => (a_nd n 91 (fun h91 => (a_nd n 93 (fun h93 => (a_nd n 94 (fun h94 => (by have e : n = 94 := by omega
           subst e; exact ok_Script_startTest)) (fun h94 => (by have e : n = 93 := by omega
           subst e; exact ok_Script_startLaw)))) (fun h93 => (a_nd n 92 (fun h92 => (by have e : n = 92 := by omega
           subst e; exact ok_Script_jumpToHere)) (fun h92 => (by have e : n = 91 := by omega
           subst e; exact ok_Script_add)))))) (fun h91 => (a_nd n 89 (fun h89 => (a_nd n 90 (fun h90 => (by have e : n = 90 := by omega
           subst e; exact ok_Script_clear)) (fun h90 => (by have e : n = 89 := by omega
           subst e; exact ok_Script_init)))) (fun h89 => (a_nd n 88 (fun h88 => (by have e : n = 88 := by omega
           subst e; exact ok_Scene_takeFrom)) (fun h88 => (by have e : n = 87 := by omega
           subst e; exact ok_Scene_toldCells)))))))) (fun h87 => (a_nd n 83 (fun h83 => (a_nd n 85 (fun h85 => (a_nd n 86 (fun h86 => (by have e : n = 86 := by omega
           subst e; exact ok_Scene_stays)) (fun h86 => (by have e : n = 85 := by omega
           subst e; exact ok_Scene_put)))) (fun h85 => (a_nd n 84 (fun h84 => (by have e : n = 84 := by omega
           subst e; exact ok_Scene_onBits)) (fun h84 => (by have e : n = 83 := by omega
           subst e; exact ok_Scene_depth)))))) (fun h83 => (a_nd n 81 (fun h81 => (a_nd n 82 (fun h82 => (by have e : n = 82 := by omega
           subst e; exact ok_Scene_isOn)) (fun h82 => (by have e : n = 81 := by omega
           subst e; exact ok_Scene_has)))) (fun h81 => (a_nd n 80 (fun h80 => (by have e : n = 80 := by omega
           subst e; exact ok_Scene_init)) (fun h80 => (by have e : n = 79 := by omega
           subst e; exact ok_Reader_wordBetween)))))))))) (fun h79 => (a_nd n 71 (fun h71 => (a_nd n 75 (fun h75 => (a_nd n 77 (fun h77 => (a_nd n 78 (fun h78 => (by have e : n = 78 := by omega
           subst e; exact ok_Reader_advance)) (fun h78 => (by have e : n = 77 := by omega
           subst e; exact ok_Reader_takeNumber)))) (fun h77 => (a_nd n 76 (fun h76 => (by have e : n = 76 := by omega
           subst e; exact ok_Reader_take)) (fun h76 => (by have e : n = 75 := by omega
           subst e; exact ok_Reader_fail)))))) (fun h75 => (a_nd n 73 (fun h73 => (a_nd n 74 (fun h74 => (by have e : n = 74 := by omega
           subst e; exact ok_Reader_readPart)) (fun h74 => (by have e : n = 73 := by omega
           subst e; exact ok_Reader_readWithin)))) (fun h73 => (a_nd n 72 (fun h72 => (by have e : n = 72 := by omega
           subst e; exact ok_Reader_readComparison)) (fun h72 => (by have e : n = 71 := by omega
           subst e; exact ok_Reader_readPlain)))))))) (fun h71 => (a_nd n 67 (fun h67 => (a_nd n 69 (fun h69 => (a_nd n 70 (fun h70 => (by have e : n = 70 := by omega
           subst e; exact ok_Reader_operationAt)) (fun h70 => (by have e : n = 69 := by omega
           subst e; exact ok_Reader_readLevel)))) (fun h69 => (a_nd n 68 (fun h68 => (by have e : n = 68 := by omega
           subst e; exact ok_Reader_readMove)) (fun h68 => (by have e : n = 67 := by omega
           subst e; exact ok_Reader_readClause)))))) (fun h67 => (a_nd n 65 (fun h65 => (a_nd n 66 (fun h66 => (by have e : n = 66 := by omega
           subst e; exact ok_Reader_tellMoves)) (fun h66 => (by have e : n = 65 := by omega
           subst e; exact ok_Reader_readText)))) (fun h65 => (a_nd n 64 (fun h64 => (by have e : n = 64 := by omega
           subst e; exact ok_Reader_init)) (fun h64 => (by have e : n = 63 := by omega
           subst e; exact ok_Prints_add)))))))))))))) (fun h63 => (a_nd n 31 (fun h31 => (a_nd n 47 (fun h47 => (a_nd n 55 (fun h55 => (a_nd n 59 (fun h59 => (a_nd n 61 (fun h61 => (a_nd n 62 (fun h62 => (by have e : n = 62 := by omega
           subst e; exact ok_Prints_maskAt)) (fun h62 => (by have e : n = 61 := by omega
           subst e; exact ok_Prints_staysWithin)))) (fun h61 => (a_nd n 60 (fun h60 => (by have e : n = 60 := by omega
           subst e; exact ok_Prints_gather)) (fun h60 => (by have e : n = 59 := by omega
           subst e; exact ok_Prints_init)))))) (fun h59 => (a_nd n 57 (fun h57 => (a_nd n 58 (fun h58 => (by have e : n = 58 := by omega
           subst e; exact ok_Planner_passTo)) (fun h58 => (by have e : n = 57 := by omega
           subst e; exact ok_Planner_followFirst)))) (fun h57 => (a_nd n 56 (fun h56 => (by have e : n = 56 := by omega
           subst e; exact ok_Planner_sumUp)) (fun h56 => (by have e : n = 55 := by omega
           subst e; exact ok_Planner_give)))))))) (fun h55 => (a_nd n 51 (fun h51 => (a_nd n 53 (fun h53 => (a_nd n 54 (fun h54 => (by have e : n = 54 := by omega
           subst e; exact ok_Planner_keepHoldings)) (fun h54 => (by have e : n = 53 := by omega
           subst e; exact ok_Planner_either)))) (fun h53 => (a_nd n 52 (fun h52 => (by have e : n = 52 := by omega
           subst e; exact ok_Planner_mix)) (fun h52 => (by have e : n = 51 := by omega
           subst e; exact ok_Planner_carryBack)))))) (fun h51 => (a_nd n 49 (fun h49 => (a_nd n 50 (fun h50 => (by have e : n = 50 := by omega
           subst e; exact ok_Planner_fillCosts)) (fun h50 => (by have e : n = 49 := by omega
           subst e; exact ok_Planner_costAt)))) (fun h49 => (a_nd n 48 (fun h48 => (by have e : n = 48 := by omega
           subst e; exact ok_Planner_sizeOf)) (fun h48 => (by have e : n = 47 := by omega
           subst e; exact ok_Planner_holderOf)))))))))) (fun h47 => (a_nd n 39 (fun h39 => (a_nd n 43 (fun h43 => (a_nd n 45 (fun h45 => (a_nd n 46 (fun h46 => (by have e : n = 46 := by omega
           subst e; exact ok_Planner_passesOf)) (fun h46 => (by have e : n = 45 := by omega
           subst e; exact ok_Planner_holderAt)))) (fun h45 => (a_nd n 44 (fun h44 => (by have e : n = 44 := by omega
           subst e; exact ok_Planner_findLeast)) (fun h44 => (by have e : n = 43 := by omega
           subst e; exact ok_Planner_init)))))) (fun h43 => (a_nd n 41 (fun h41 => (a_nd n 42 (fun h42 => (by have e : n = 42 := by omega
           subst e; exact ok_Maker_countFilling)) (fun h42 => (by have e : n = 41 := by omega
           subst e; exact ok_Maker_keepFirst)))) (fun h41 => (a_nd n 40 (fun h40 => (by have e : n = 40 := by omega
           subst e; exact ok_Maker_countBeside)) (fun h40 => (by have e : n = 39 := by omega
           subst e; exact ok_Maker_rarestCell)))))))) (fun h39 => (a_nd n 35 (fun h35 => (a_nd n 37 (fun h37 => (a_nd n 38 (fun h38 => (by have e : n = 38 := by omega
           subst e; exact ok_Maker_tryTriple)) (fun h38 => (by have e : n = 37 := by omega
           subst e; exact ok_Maker_tryPair)))) (fun h37 => (a_nd n 36 (fun h36 => (by have e : n = 36 := by omega
           subst e; exact ok_Maker_trySingle)) (fun h36 => (by have e : n = 35 := by omega
           subst e; exact ok_Maker_choose)))))) (fun h35 => (a_nd n 33 (fun h33 => (a_nd n 34 (fun h34 => (by have e : n = 34 := by omega
           subst e; exact ok_Maker_isBetter)) (fun h34 => (by have e : n = 33 := by omega
           subst e; exact ok_Maker_trySet)))) (fun h33 => (a_nd n 32 (fun h32 => (by have e : n = 32 := by omega
           subst e; exact ok_Maker_gatherCast)) (fun h32 => (by have e : n = 31 := by omega
           subst e; exact ok_Maker_tellOf)))))))))))) (fun h31 => (a_nd n 15 (fun h15 => (a_nd n 23 (fun h23 => (a_nd n 27 (fun h27 => (a_nd n 29 (fun h29 => (a_nd n 30 (fun h30 => (by have e : n = 30 := by omega
           subst e; exact ok_Maker_wayCount)) (fun h30 => (by have e : n = 29 := by omega
           subst e; exact ok_Maker_solve)))) (fun h29 => (a_nd n 28 (fun h28 => (by have e : n = 28 := by omega
           subst e; exact ok_Maker_forget)) (fun h28 => (by have e : n = 27 := by omega
           subst e; exact ok_Maker_init)))))) (fun h27 => (a_nd n 25 (fun h25 => (a_nd n 26 (fun h26 => (by have e : n = 26 := by omega
           subst e; exact ok_Light_blur)) (fun h26 => (by have e : n = 25 := by omega
           subst e; exact ok_Light_hiddenCells)))) (fun h25 => (a_nd n 24 (fun h24 => (by have e : n = 24 := by omega
           subst e; exact ok_Light_cellsInBoth)) (fun h24 => (by have e : n = 23 := by omega
           subst e; exact ok_Light_rowOfAll)))))))) (fun h23 => (a_nd n 19 (fun h19 => (a_nd n 21 (fun h21 => (a_nd n 22 (fun h22 => (by have e : n = 22 := by omega
           subst e; exact ok_Light_rowOf)) (fun h22 => (by have e : n = 21 := by omega
           subst e; exact ok_Light_project)))) (fun h21 => (a_nd n 20 (fun h20 => (by have e : n = 20 := by omega
           subst e; exact ok_Light_init)) (fun h20 => (by have e : n = 19 := by omega
           subst e; exact ok_Hands_isTogether)))))) (fun h19 => (a_nd n 17 (fun h17 => (a_nd n 18 (fun h18 => (by have e : n = 18 := by omega
           subst e; exact ok_Hands_handsSuffice)) (fun h18 => (by have e : n = 17 := by omega
           subst e; exact ok_Hands_setsFor)))) (fun h17 => (a_nd n 16 (fun h16 => (by have e : n = 16 := by omega
           subst e; exact ok_Hands_allowedFor)) (fun h16 => (by have e : n = 15 := by omega
           subst e; exact ok_Hands_farFrom)))))))))) (fun h15 => (a_nd n 7 (fun h7 => (a_nd n 11 (fun h11 => (a_nd n 13 (fun h13 => (a_nd n 14 (fun h14 => (by have e : n = 14 := by omega
           subst e; exact ok_Hands_spreadWays)) (fun h14 => (by have e : n = 13 := by omega
           subst e; exact ok_Hands_spread)))) (fun h13 => (a_nd n 12 (fun h12 => (by have e : n = 12 := by omega
           subst e; exact ok_Hands_reached)) (fun h12 => (by have e : n = 11 := by omega
           subst e; exact ok_Hands_coreAt)))))) (fun h11 => (a_nd n 9 (fun h9 => (a_nd n 10 (fun h10 => (by have e : n = 10 := by omega
           subst e; exact ok_Hands_firstBarred)) (fun h10 => (by have e : n = 9 := by omega
           subst e; exact ok_Hands_waysOfAll)))) (fun h9 => (a_nd n 8 (fun h8 => (by have e : n = 8 := by omega
           subst e; exact ok_Hands_canHold)) (fun h8 => (by have e : n = 7 := by omega
           subst e; exact ok_Hands_lookAt)))))))) (fun h7 => (a_nd n 3 (fun h3 => (a_nd n 5 (fun h5 => (a_nd n 6 (fun h6 => (by have e : n = 6 := by omega
           subst e; exact ok_Hands_forget)) (fun h6 => (by have e : n = 5 := by omega
           subst e; exact ok_Hands_init)))) (fun h5 => (a_nd n 4 (fun h4 => (by have e : n = 4 := by omega
           subst e; exact ok_Asker_join)) (fun h4 => (by have e : n = 3 := by omega
           subst e; exact ok_Asker_valueOf)))))) (fun h3 => (a_nd n 1 (fun h1 => (a_nd n 2 (fun h2 => (by have e : n = 2 := by omega
           subst e; exact ok_Asker_tellLast)) (fun h2 => (by have e : n = 1 := by omega
           subst e; exact ok_Asker_turnTo)))) (fun h1 => (by have e : n = 0 := by omega
           subst e; exact ok_Asker_init))))))))))))))))
theorem a_prog : ∀ mi pc x, aTab mi pc = some x → a_ok aYY aBB aMX aRR mi pc x := fun mi pc x h => ok_all mi (pc, x) (a_look_mem h)
