/-! ===== tables, laid by wip/whole/gen_tab.py out of the decode rows that are printed for the claim ===== -/
set_option maxRecDepth 100000 in
theorem ob_Asker_init : tb_Asker_init.all (fun e => a_okb po_X0 kI_X0 kL_X0 cX0_init 2 none true e.1 e.2) = true := by decide +kernel
theorem ok_Asker_init : ∀ e ∈ tb_Asker_init, a_ok aYY aBB aMX aRR 0 e.1 e.2 := fun e he => a_okb_sound (mi := 0) aYY aBB aMX aRR pa_X0 ka_X0 kb_X0 k_arr rfl rfl rfl (fun _ => rfl) (List.all_eq_true.mp ob_Asker_init e he)
set_option maxRecDepth 100000 in
theorem ob_Asker_turnTo : tb_Asker_turnTo.all (fun e => a_okb po_X0 kI_X0 kL_X0 cX0_turnTo 6 none false e.1 e.2) = true := by decide +kernel
theorem ok_Asker_turnTo : ∀ e ∈ tb_Asker_turnTo, a_ok aYY aBB aMX aRR 1 e.1 e.2 := fun e he => a_okb_sound (mi := 1) aYY aBB aMX aRR pa_X0 ka_X0 kb_X0 k_arr rfl rfl rfl (fun h => by cases h) (List.all_eq_true.mp ob_Asker_turnTo e he)
set_option maxRecDepth 100000 in
theorem ob_Asker_tellLast : tb_Asker_tellLast.all (fun e => a_okb po_X0 kI_X0 kL_X0 cX0_tellLast 10 (some .int) false e.1 e.2) = true := by decide +kernel
theorem ok_Asker_tellLast : ∀ e ∈ tb_Asker_tellLast, a_ok aYY aBB aMX aRR 2 e.1 e.2 := fun e he => a_okb_sound (mi := 2) aYY aBB aMX aRR pa_X0 ka_X0 kb_X0 k_arr rfl rfl rfl (fun h => by cases h) (List.all_eq_true.mp ob_Asker_tellLast e he)
set_option maxRecDepth 100000 in
theorem ob_Asker_valueOf : tb_Asker_valueOf.all (fun e => a_okb po_X0 kI_X0 kL_X0 cX0_valueOf 10 (some .long) false e.1 e.2) = true := by decide +kernel
theorem ok_Asker_valueOf : ∀ e ∈ tb_Asker_valueOf, a_ok aYY aBB aMX aRR 3 e.1 e.2 := fun e he => a_okb_sound (mi := 3) aYY aBB aMX aRR pa_X0 ka_X0 kb_X0 k_arr rfl rfl rfl (fun h => by cases h) (List.all_eq_true.mp ob_Asker_valueOf e he)
set_option maxRecDepth 100000 in
theorem ob_Asker_join : tb_Asker_join.all (fun e => a_okb po_X0 kI_X0 kL_X0 cX0_join 5 (some .long) false e.1 e.2) = true := by decide +kernel
theorem ok_Asker_join : ∀ e ∈ tb_Asker_join, a_ok aYY aBB aMX aRR 4 e.1 e.2 := fun e he => a_okb_sound (mi := 4) aYY aBB aMX aRR pa_X0 ka_X0 kb_X0 k_arr rfl rfl rfl (fun h => by cases h) (List.all_eq_true.mp ob_Asker_join e he)
set_option maxRecDepth 100000 in
theorem ob_Hands_init : tb_Hands_init.all (fun e => a_okb po_X1 kI_X1 kL_X1 cX1_init 3 none true e.1 e.2) = true := by decide +kernel
theorem ok_Hands_init : ∀ e ∈ tb_Hands_init, a_ok aYY aBB aMX aRR 5 e.1 e.2 := fun e he => a_okb_sound (mi := 5) aYY aBB aMX aRR pa_X1 ka_X1 kb_X1 k_arr rfl rfl rfl (fun _ => rfl) (List.all_eq_true.mp ob_Hands_init e he)
set_option maxRecDepth 100000 in
theorem ob_Hands_forget : tb_Hands_forget.all (fun e => a_okb po_X1 kI_X1 kL_X1 cX1_forget 2 none false e.1 e.2) = true := by decide +kernel
theorem ok_Hands_forget : ∀ e ∈ tb_Hands_forget, a_ok aYY aBB aMX aRR 6 e.1 e.2 := fun e he => a_okb_sound (mi := 6) aYY aBB aMX aRR pa_X1 ka_X1 kb_X1 k_arr rfl rfl rfl (fun h => by cases h) (List.all_eq_true.mp ob_Hands_forget e he)
set_option maxRecDepth 100000 in
theorem ob_Hands_lookAt : tb_Hands_lookAt.all (fun e => a_okb po_X1 kI_X1 kL_X1 cX1_lookAt 3 none false e.1 e.2) = true := by decide +kernel
theorem ok_Hands_lookAt : ∀ e ∈ tb_Hands_lookAt, a_ok aYY aBB aMX aRR 7 e.1 e.2 := fun e he => a_okb_sound (mi := 7) aYY aBB aMX aRR pa_X1 ka_X1 kb_X1 k_arr rfl rfl rfl (fun h => by cases h) (List.all_eq_true.mp ob_Hands_lookAt e he)
set_option maxRecDepth 100000 in
theorem ob_Hands_canHold : tb_Hands_canHold.all (fun e => a_okb po_X1 kI_X1 kL_X1 cX1_canHold 4 (some .boolean) false e.1 e.2) = true := by decide +kernel
theorem ok_Hands_canHold : ∀ e ∈ tb_Hands_canHold, a_ok aYY aBB aMX aRR 8 e.1 e.2 := fun e he => a_okb_sound (mi := 8) aYY aBB aMX aRR pa_X1 ka_X1 kb_X1 k_arr rfl rfl rfl (fun h => by cases h) (List.all_eq_true.mp ob_Hands_canHold e he)
set_option maxRecDepth 100000 in
theorem ob_Hands_waysOfAll : tb_Hands_waysOfAll.all (fun e => a_okb po_X1 kI_X1 kL_X1 cX1_waysOfAll 5 (some .int) false e.1 e.2) = true := by decide +kernel
theorem ok_Hands_waysOfAll : ∀ e ∈ tb_Hands_waysOfAll, a_ok aYY aBB aMX aRR 9 e.1 e.2 := fun e he => a_okb_sound (mi := 9) aYY aBB aMX aRR pa_X1 ka_X1 kb_X1 k_arr rfl rfl rfl (fun h => by cases h) (List.all_eq_true.mp ob_Hands_waysOfAll e he)
set_option maxRecDepth 100000 in
theorem ob_Hands_firstBarred : tb_Hands_firstBarred.all (fun e => a_okb po_X1 kI_X1 kL_X1 cX1_firstBarred 3 (some .int) false e.1 e.2) = true := by decide +kernel
theorem ok_Hands_firstBarred : ∀ e ∈ tb_Hands_firstBarred, a_ok aYY aBB aMX aRR 10 e.1 e.2 := fun e he => a_okb_sound (mi := 10) aYY aBB aMX aRR pa_X1 ka_X1 kb_X1 k_arr rfl rfl rfl (fun h => by cases h) (List.all_eq_true.mp ob_Hands_firstBarred e he)
set_option maxRecDepth 100000 in
theorem ob_Hands_coreAt : tb_Hands_coreAt.all (fun e => a_okb po_X1 kI_X1 kL_X1 cX1_coreAt 8 (some .int) false e.1 e.2) = true := by decide +kernel
theorem ok_Hands_coreAt : ∀ e ∈ tb_Hands_coreAt, a_ok aYY aBB aMX aRR 11 e.1 e.2 := fun e he => a_okb_sound (mi := 11) aYY aBB aMX aRR pa_X1 ka_X1 kb_X1 k_arr rfl rfl rfl (fun h => by cases h) (List.all_eq_true.mp ob_Hands_coreAt e he)
set_option maxRecDepth 100000 in
theorem ob_Hands_reached : tb_Hands_reached.all (fun e => a_okb po_X1 kI_X1 kL_X1 cX1_reached 6 (some .long) false e.1 e.2) = true := by decide +kernel
theorem ok_Hands_reached : ∀ e ∈ tb_Hands_reached, a_ok aYY aBB aMX aRR 12 e.1 e.2 := fun e he => a_okb_sound (mi := 12) aYY aBB aMX aRR pa_X1 ka_X1 kb_X1 k_arr rfl rfl rfl (fun h => by cases h) (List.all_eq_true.mp ob_Hands_reached e he)
set_option maxRecDepth 100000 in
theorem ob_Hands_spread : tb_Hands_spread.all (fun e => a_okb po_X1 kI_X1 kL_X1 cX1_spread 10 (some .long) false e.1 e.2) = true := by decide +kernel
theorem ok_Hands_spread : ∀ e ∈ tb_Hands_spread, a_ok aYY aBB aMX aRR 13 e.1 e.2 := fun e he => a_okb_sound (mi := 13) aYY aBB aMX aRR pa_X1 ka_X1 kb_X1 k_arr rfl rfl rfl (fun h => by cases h) (List.all_eq_true.mp ob_Hands_spread e he)
set_option maxRecDepth 100000 in
theorem ob_Hands_spreadWays : tb_Hands_spreadWays.all (fun e => a_okb po_X1 kI_X1 kL_X1 cX1_spreadWays 9 none false e.1 e.2) = true := by decide +kernel
theorem ok_Hands_spreadWays : ∀ e ∈ tb_Hands_spreadWays, a_ok aYY aBB aMX aRR 14 e.1 e.2 := fun e he => a_okb_sound (mi := 14) aYY aBB aMX aRR pa_X1 ka_X1 kb_X1 k_arr rfl rfl rfl (fun h => by cases h) (List.all_eq_true.mp ob_Hands_spreadWays e he)
set_option maxRecDepth 100000 in
theorem ob_Hands_farFrom : tb_Hands_farFrom.all (fun e => a_okb po_X1 kI_X1 kL_X1 cX1_farFrom 7 (some .int) false e.1 e.2) = true := by decide +kernel
theorem ok_Hands_farFrom : ∀ e ∈ tb_Hands_farFrom, a_ok aYY aBB aMX aRR 15 e.1 e.2 := fun e he => a_okb_sound (mi := 15) aYY aBB aMX aRR pa_X1 ka_X1 kb_X1 k_arr rfl rfl rfl (fun h => by cases h) (List.all_eq_true.mp ob_Hands_farFrom e he)
set_option maxRecDepth 100000 in
theorem ob_Hands_allowedFor : tb_Hands_allowedFor.all (fun e => a_okb po_X1 kI_X1 kL_X1 cX1_allowedFor 5 (some .int) false e.1 e.2) = true := by decide +kernel
theorem ok_Hands_allowedFor : ∀ e ∈ tb_Hands_allowedFor, a_ok aYY aBB aMX aRR 16 e.1 e.2 := fun e he => a_okb_sound (mi := 16) aYY aBB aMX aRR pa_X1 ka_X1 kb_X1 k_arr rfl rfl rfl (fun h => by cases h) (List.all_eq_true.mp ob_Hands_allowedFor e he)
set_option maxRecDepth 100000 in
theorem ob_Hands_setsFor : tb_Hands_setsFor.all (fun e => a_okb po_X1 kI_X1 kL_X1 cX1_setsFor 7 (some .long) false e.1 e.2) = true := by decide +kernel
theorem ok_Hands_setsFor : ∀ e ∈ tb_Hands_setsFor, a_ok aYY aBB aMX aRR 17 e.1 e.2 := fun e he => a_okb_sound (mi := 17) aYY aBB aMX aRR pa_X1 ka_X1 kb_X1 k_arr rfl rfl rfl (fun h => by cases h) (List.all_eq_true.mp ob_Hands_setsFor e he)
set_option maxRecDepth 100000 in
theorem ob_Hands_handsSuffice : tb_Hands_handsSuffice.all (fun e => a_okb po_X1 kI_X1 kL_X1 cX1_handsSuffice 5 (some .boolean) false e.1 e.2) = true := by decide +kernel
theorem ok_Hands_handsSuffice : ∀ e ∈ tb_Hands_handsSuffice, a_ok aYY aBB aMX aRR 18 e.1 e.2 := fun e he => a_okb_sound (mi := 18) aYY aBB aMX aRR pa_X1 ka_X1 kb_X1 k_arr rfl rfl rfl (fun h => by cases h) (List.all_eq_true.mp ob_Hands_handsSuffice e he)
set_option maxRecDepth 100000 in
theorem ob_Hands_isTogether : tb_Hands_isTogether.all (fun e => a_okb po_X1 kI_X1 kL_X1 cX1_isTogether 3 (some .boolean) false e.1 e.2) = true := by decide +kernel
theorem ok_Hands_isTogether : ∀ e ∈ tb_Hands_isTogether, a_ok aYY aBB aMX aRR 19 e.1 e.2 := fun e he => a_okb_sound (mi := 19) aYY aBB aMX aRR pa_X1 ka_X1 kb_X1 k_arr rfl rfl rfl (fun h => by cases h) (List.all_eq_true.mp ob_Hands_isTogether e he)
set_option maxRecDepth 100000 in
theorem ob_Light_init : tb_Light_init.all (fun e => a_okb po_X2 kI_X2 kL_X2 cX2_init 2 none true e.1 e.2) = true := by decide +kernel
theorem ok_Light_init : ∀ e ∈ tb_Light_init, a_ok aYY aBB aMX aRR 20 e.1 e.2 := fun e he => a_okb_sound (mi := 20) aYY aBB aMX aRR pa_X2 ka_X2 kb_X2 k_arr rfl rfl rfl (fun _ => rfl) (List.all_eq_true.mp ob_Light_init e he)
set_option maxRecDepth 100000 in
theorem ob_Light_project : tb_Light_project.all (fun e => a_okb po_X2 kI_X2 kL_X2 cX2_project 3 (some .int) false e.1 e.2) = true := by decide +kernel
theorem ok_Light_project : ∀ e ∈ tb_Light_project, a_ok aYY aBB aMX aRR 21 e.1 e.2 := fun e he => a_okb_sound (mi := 21) aYY aBB aMX aRR pa_X2 ka_X2 kb_X2 k_arr rfl rfl rfl (fun h => by cases h) (List.all_eq_true.mp ob_Light_project e he)
set_option maxRecDepth 100000 in
theorem ob_Light_rowOf : tb_Light_rowOf.all (fun e => a_okb po_X2 kI_X2 kL_X2 cX2_rowOf 12 (some .int) false e.1 e.2) = true := by decide +kernel
theorem ok_Light_rowOf : ∀ e ∈ tb_Light_rowOf, a_ok aYY aBB aMX aRR 22 e.1 e.2 := fun e he => a_okb_sound (mi := 22) aYY aBB aMX aRR pa_X2 ka_X2 kb_X2 k_arr rfl rfl rfl (fun h => by cases h) (List.all_eq_true.mp ob_Light_rowOf e he)
set_option maxRecDepth 100000 in
theorem ob_Light_rowOfAll : tb_Light_rowOfAll.all (fun e => a_okb po_X2 kI_X2 kL_X2 cX2_rowOfAll 5 (some .int) false e.1 e.2) = true := by decide +kernel
theorem ok_Light_rowOfAll : ∀ e ∈ tb_Light_rowOfAll, a_ok aYY aBB aMX aRR 23 e.1 e.2 := fun e he => a_okb_sound (mi := 23) aYY aBB aMX aRR pa_X2 ka_X2 kb_X2 k_arr rfl rfl rfl (fun h => by cases h) (List.all_eq_true.mp ob_Light_rowOfAll e he)
set_option maxRecDepth 100000 in
theorem ob_Light_cellsInBoth : tb_Light_cellsInBoth.all (fun e => a_okb po_X2 kI_X2 kL_X2 cX2_cellsInBoth 6 (some .int) false e.1 e.2) = true := by decide +kernel
theorem ok_Light_cellsInBoth : ∀ e ∈ tb_Light_cellsInBoth, a_ok aYY aBB aMX aRR 24 e.1 e.2 := fun e he => a_okb_sound (mi := 24) aYY aBB aMX aRR pa_X2 ka_X2 kb_X2 k_arr rfl rfl rfl (fun h => by cases h) (List.all_eq_true.mp ob_Light_cellsInBoth e he)
set_option maxRecDepth 100000 in
theorem ob_Light_hiddenCells : tb_Light_hiddenCells.all (fun e => a_okb po_X2 kI_X2 kL_X2 cX2_hiddenCells 9 (some .int) false e.1 e.2) = true := by decide +kernel
theorem ok_Light_hiddenCells : ∀ e ∈ tb_Light_hiddenCells, a_ok aYY aBB aMX aRR 25 e.1 e.2 := fun e he => a_okb_sound (mi := 25) aYY aBB aMX aRR pa_X2 ka_X2 kb_X2 k_arr rfl rfl rfl (fun h => by cases h) (List.all_eq_true.mp ob_Light_hiddenCells e he)
set_option maxRecDepth 100000 in
theorem ob_Light_blur : tb_Light_blur.all (fun e => a_okb po_X2 kI_X2 kL_X2 cX2_blur 4 (some .int) false e.1 e.2) = true := by decide +kernel
theorem ok_Light_blur : ∀ e ∈ tb_Light_blur, a_ok aYY aBB aMX aRR 26 e.1 e.2 := fun e he => a_okb_sound (mi := 26) aYY aBB aMX aRR pa_X2 ka_X2 kb_X2 k_arr rfl rfl rfl (fun h => by cases h) (List.all_eq_true.mp ob_Light_blur e he)
set_option maxRecDepth 100000 in
theorem ob_Maker_init : tb_Maker_init.all (fun e => a_okb po_X3 kI_X3 kL_X3 cX3_init 2 none true e.1 e.2) = true := by decide +kernel
theorem ok_Maker_init : ∀ e ∈ tb_Maker_init, a_ok aYY aBB aMX aRR 27 e.1 e.2 := fun e he => a_okb_sound (mi := 27) aYY aBB aMX aRR pa_X3 ka_X3 kb_X3 k_arr rfl rfl rfl (fun _ => rfl) (List.all_eq_true.mp ob_Maker_init e he)
set_option maxRecDepth 100000 in
theorem ob_Maker_forget : tb_Maker_forget.all (fun e => a_okb po_X3 kI_X3 kL_X3 cX3_forget 2 none false e.1 e.2) = true := by decide +kernel
theorem ok_Maker_forget : ∀ e ∈ tb_Maker_forget, a_ok aYY aBB aMX aRR 28 e.1 e.2 := fun e he => a_okb_sound (mi := 28) aYY aBB aMX aRR pa_X3 ka_X3 kb_X3 k_arr rfl rfl rfl (fun h => by cases h) (List.all_eq_true.mp ob_Maker_forget e he)
set_option maxRecDepth 100000 in
theorem ob_Maker_solve : tb_Maker_solve.all (fun e => a_okb po_X3 kI_X3 kL_X3 cX3_solve 3 none false e.1 e.2) = true := by decide +kernel
theorem ok_Maker_solve : ∀ e ∈ tb_Maker_solve, a_ok aYY aBB aMX aRR 29 e.1 e.2 := fun e he => a_okb_sound (mi := 29) aYY aBB aMX aRR pa_X3 ka_X3 kb_X3 k_arr rfl rfl rfl (fun h => by cases h) (List.all_eq_true.mp ob_Maker_solve e he)
set_option maxRecDepth 100000 in
theorem ob_Maker_wayCount : tb_Maker_wayCount.all (fun e => a_okb po_X3 kI_X3 kL_X3 cX3_wayCount 1 (some .int) false e.1 e.2) = true := by decide +kernel
theorem ok_Maker_wayCount : ∀ e ∈ tb_Maker_wayCount, a_ok aYY aBB aMX aRR 30 e.1 e.2 := fun e he => a_okb_sound (mi := 30) aYY aBB aMX aRR pa_X3 ka_X3 kb_X3 k_arr rfl rfl rfl (fun h => by cases h) (List.all_eq_true.mp ob_Maker_wayCount e he)
set_option maxRecDepth 100000 in
theorem ob_Maker_tellOf : tb_Maker_tellOf.all (fun e => a_okb po_X3 kI_X3 kL_X3 cX3_tellOf 5 (some .int) false e.1 e.2) = true := by decide +kernel
theorem ok_Maker_tellOf : ∀ e ∈ tb_Maker_tellOf, a_ok aYY aBB aMX aRR 31 e.1 e.2 := fun e he => a_okb_sound (mi := 31) aYY aBB aMX aRR pa_X3 ka_X3 kb_X3 k_arr rfl rfl rfl (fun h => by cases h) (List.all_eq_true.mp ob_Maker_tellOf e he)
set_option maxRecDepth 100000 in
theorem ob_Maker_gatherCast : tb_Maker_gatherCast.all (fun e => a_okb po_X3 kI_X3 kL_X3 cX3_gatherCast 2 none false e.1 e.2) = true := by decide +kernel
theorem ok_Maker_gatherCast : ∀ e ∈ tb_Maker_gatherCast, a_ok aYY aBB aMX aRR 32 e.1 e.2 := fun e he => a_okb_sound (mi := 32) aYY aBB aMX aRR pa_X3 ka_X3 kb_X3 k_arr rfl rfl rfl (fun h => by cases h) (List.all_eq_true.mp ob_Maker_gatherCast e he)
set_option maxRecDepth 100000 in
theorem ob_Maker_trySet : tb_Maker_trySet.all (fun e => a_okb po_X3 kI_X3 kL_X3 cX3_trySet 6 none false e.1 e.2) = true := by decide +kernel
theorem ok_Maker_trySet : ∀ e ∈ tb_Maker_trySet, a_ok aYY aBB aMX aRR 33 e.1 e.2 := fun e he => a_okb_sound (mi := 33) aYY aBB aMX aRR pa_X3 ka_X3 kb_X3 k_arr rfl rfl rfl (fun h => by cases h) (List.all_eq_true.mp ob_Maker_trySet e he)
set_option maxRecDepth 100000 in
theorem ob_Maker_isBetter : tb_Maker_isBetter.all (fun e => a_okb po_X3 kI_X3 kL_X3 cX3_isBetter 2 (some .boolean) false e.1 e.2) = true := by decide +kernel
theorem ok_Maker_isBetter : ∀ e ∈ tb_Maker_isBetter, a_ok aYY aBB aMX aRR 34 e.1 e.2 := fun e he => a_okb_sound (mi := 34) aYY aBB aMX aRR pa_X3 ka_X3 kb_X3 k_arr rfl rfl rfl (fun h => by cases h) (List.all_eq_true.mp ob_Maker_isBetter e he)
set_option maxRecDepth 100000 in
theorem ob_Maker_choose : tb_Maker_choose.all (fun e => a_okb po_X3 kI_X3 kL_X3 cX3_choose 2 none false e.1 e.2) = true := by decide +kernel
theorem ok_Maker_choose : ∀ e ∈ tb_Maker_choose, a_ok aYY aBB aMX aRR 35 e.1 e.2 := fun e he => a_okb_sound (mi := 35) aYY aBB aMX aRR pa_X3 ka_X3 kb_X3 k_arr rfl rfl rfl (fun h => by cases h) (List.all_eq_true.mp ob_Maker_choose e he)
set_option maxRecDepth 100000 in
theorem ob_Maker_trySingle : tb_Maker_trySingle.all (fun e => a_okb po_X3 kI_X3 kL_X3 cX3_trySingle 4 none false e.1 e.2) = true := by decide +kernel
theorem ok_Maker_trySingle : ∀ e ∈ tb_Maker_trySingle, a_ok aYY aBB aMX aRR 36 e.1 e.2 := fun e he => a_okb_sound (mi := 36) aYY aBB aMX aRR pa_X3 ka_X3 kb_X3 k_arr rfl rfl rfl (fun h => by cases h) (List.all_eq_true.mp ob_Maker_trySingle e he)
set_option maxRecDepth 100000 in
theorem ob_Maker_tryPair : tb_Maker_tryPair.all (fun e => a_okb po_X3 kI_X3 kL_X3 cX3_tryPair 11 none false e.1 e.2) = true := by decide +kernel
theorem ok_Maker_tryPair : ∀ e ∈ tb_Maker_tryPair, a_ok aYY aBB aMX aRR 37 e.1 e.2 := fun e he => a_okb_sound (mi := 37) aYY aBB aMX aRR pa_X3 ka_X3 kb_X3 k_arr rfl rfl rfl (fun h => by cases h) (List.all_eq_true.mp ob_Maker_tryPair e he)
set_option maxRecDepth 100000 in
theorem ob_Maker_tryTriple : tb_Maker_tryTriple.all (fun e => a_okb po_X3 kI_X3 kL_X3 cX3_tryTriple 13 none false e.1 e.2) = true := by decide +kernel
theorem ok_Maker_tryTriple : ∀ e ∈ tb_Maker_tryTriple, a_ok aYY aBB aMX aRR 38 e.1 e.2 := fun e he => a_okb_sound (mi := 38) aYY aBB aMX aRR pa_X3 ka_X3 kb_X3 k_arr rfl rfl rfl (fun h => by cases h) (List.all_eq_true.mp ob_Maker_tryTriple e he)
set_option maxRecDepth 100000 in
theorem ob_Maker_rarestCell : tb_Maker_rarestCell.all (fun e => a_okb po_X3 kI_X3 kL_X3 cX3_rarestCell 6 (some .int) false e.1 e.2) = true := by decide +kernel
theorem ok_Maker_rarestCell : ∀ e ∈ tb_Maker_rarestCell, a_ok aYY aBB aMX aRR 39 e.1 e.2 := fun e he => a_okb_sound (mi := 39) aYY aBB aMX aRR pa_X3 ka_X3 kb_X3 k_arr rfl rfl rfl (fun h => by cases h) (List.all_eq_true.mp ob_Maker_rarestCell e he)
set_option maxRecDepth 100000 in
theorem ob_Maker_countBeside : tb_Maker_countBeside.all (fun e => a_okb po_X3 kI_X3 kL_X3 cX3_countBeside 16 (some .long) false e.1 e.2) = true := by decide +kernel
theorem ok_Maker_countBeside : ∀ e ∈ tb_Maker_countBeside, a_ok aYY aBB aMX aRR 40 e.1 e.2 := fun e he => a_okb_sound (mi := 40) aYY aBB aMX aRR pa_X3 ka_X3 kb_X3 k_arr rfl rfl rfl (fun h => by cases h) (List.all_eq_true.mp ob_Maker_countBeside e he)
set_option maxRecDepth 100000 in
theorem ob_Maker_keepFirst : tb_Maker_keepFirst.all (fun e => a_okb po_X3 kI_X3 kL_X3 cX3_keepFirst 3 none false e.1 e.2) = true := by decide +kernel
theorem ok_Maker_keepFirst : ∀ e ∈ tb_Maker_keepFirst, a_ok aYY aBB aMX aRR 41 e.1 e.2 := fun e he => a_okb_sound (mi := 41) aYY aBB aMX aRR pa_X3 ka_X3 kb_X3 k_arr rfl rfl rfl (fun h => by cases h) (List.all_eq_true.mp ob_Maker_keepFirst e he)
set_option maxRecDepth 100000 in
theorem ob_Maker_countFilling : tb_Maker_countFilling.all (fun e => a_okb po_X3 kI_X3 kL_X3 cX3_countFilling 18 (some .long) false e.1 e.2) = true := by decide +kernel
theorem ok_Maker_countFilling : ∀ e ∈ tb_Maker_countFilling, a_ok aYY aBB aMX aRR 42 e.1 e.2 := fun e he => a_okb_sound (mi := 42) aYY aBB aMX aRR pa_X3 ka_X3 kb_X3 k_arr rfl rfl rfl (fun h => by cases h) (List.all_eq_true.mp ob_Maker_countFilling e he)
set_option maxRecDepth 100000 in
theorem ob_Planner_init : tb_Planner_init.all (fun e => a_okb po_X4 kI_X4 kL_X4 cX4_init 4 none true e.1 e.2) = true := by decide +kernel
theorem ok_Planner_init : ∀ e ∈ tb_Planner_init, a_ok aYY aBB aMX aRR 43 e.1 e.2 := fun e he => a_okb_sound (mi := 43) aYY aBB aMX aRR pa_X4 ka_X4 kb_X4 k_arr rfl rfl rfl (fun _ => rfl) (List.all_eq_true.mp ob_Planner_init e he)
set_option maxRecDepth 100000 in
theorem ob_Planner_findLeast : tb_Planner_findLeast.all (fun e => a_okb po_X4 kI_X4 kL_X4 cX4_findLeast 2 (some .boolean) false e.1 e.2) = true := by decide +kernel
theorem ok_Planner_findLeast : ∀ e ∈ tb_Planner_findLeast, a_ok aYY aBB aMX aRR 44 e.1 e.2 := fun e he => a_okb_sound (mi := 44) aYY aBB aMX aRR pa_X4 ka_X4 kb_X4 k_arr rfl rfl rfl (fun h => by cases h) (List.all_eq_true.mp ob_Planner_findLeast e he)
set_option maxRecDepth 100000 in
theorem ob_Planner_holderAt : tb_Planner_holderAt.all (fun e => a_okb po_X4 kI_X4 kL_X4 cX4_holderAt 3 (some .int) false e.1 e.2) = true := by decide +kernel
theorem ok_Planner_holderAt : ∀ e ∈ tb_Planner_holderAt, a_ok aYY aBB aMX aRR 45 e.1 e.2 := fun e he => a_okb_sound (mi := 45) aYY aBB aMX aRR pa_X4 ka_X4 kb_X4 k_arr rfl rfl rfl (fun h => by cases h) (List.all_eq_true.mp ob_Planner_holderAt e he)
set_option maxRecDepth 100000 in
theorem ob_Planner_passesOf : tb_Planner_passesOf.all (fun e => a_okb po_X4 kI_X4 kL_X4 cX4_passesOf 6 (some .int) false e.1 e.2) = true := by decide +kernel
theorem ok_Planner_passesOf : ∀ e ∈ tb_Planner_passesOf, a_ok aYY aBB aMX aRR 46 e.1 e.2 := fun e he => a_okb_sound (mi := 46) aYY aBB aMX aRR pa_X4 ka_X4 kb_X4 k_arr rfl rfl rfl (fun h => by cases h) (List.all_eq_true.mp ob_Planner_passesOf e he)
set_option maxRecDepth 100000 in
theorem ob_Planner_holderOf : tb_Planner_holderOf.all (fun e => a_okb po_X4 kI_X4 kL_X4 cX4_holderOf 2 (some .int) false e.1 e.2) = true := by decide +kernel
theorem ok_Planner_holderOf : ∀ e ∈ tb_Planner_holderOf, a_ok aYY aBB aMX aRR 47 e.1 e.2 := fun e he => a_okb_sound (mi := 47) aYY aBB aMX aRR pa_X4 ka_X4 kb_X4 k_arr rfl rfl rfl (fun h => by cases h) (List.all_eq_true.mp ob_Planner_holderOf e he)
set_option maxRecDepth 100000 in
theorem ob_Planner_sizeOf : tb_Planner_sizeOf.all (fun e => a_okb po_X4 kI_X4 kL_X4 cX4_sizeOf 4 (some .int) false e.1 e.2) = true := by decide +kernel
theorem ok_Planner_sizeOf : ∀ e ∈ tb_Planner_sizeOf, a_ok aYY aBB aMX aRR 48 e.1 e.2 := fun e he => a_okb_sound (mi := 48) aYY aBB aMX aRR pa_X4 ka_X4 kb_X4 k_arr rfl rfl rfl (fun h => by cases h) (List.all_eq_true.mp ob_Planner_sizeOf e he)
set_option maxRecDepth 100000 in
theorem ob_Planner_costAt : tb_Planner_costAt.all (fun e => a_okb po_X4 kI_X4 kL_X4 cX4_costAt 4 (some .int) false e.1 e.2) = true := by decide +kernel
theorem ok_Planner_costAt : ∀ e ∈ tb_Planner_costAt, a_ok aYY aBB aMX aRR 49 e.1 e.2 := fun e he => a_okb_sound (mi := 49) aYY aBB aMX aRR pa_X4 ka_X4 kb_X4 k_arr rfl rfl rfl (fun h => by cases h) (List.all_eq_true.mp ob_Planner_costAt e he)
set_option maxRecDepth 100000 in
theorem ob_Planner_fillCosts : tb_Planner_fillCosts.all (fun e => a_okb po_X4 kI_X4 kL_X4 cX4_fillCosts 7 none false e.1 e.2) = true := by decide +kernel
theorem ok_Planner_fillCosts : ∀ e ∈ tb_Planner_fillCosts, a_ok aYY aBB aMX aRR 50 e.1 e.2 := fun e he => a_okb_sound (mi := 50) aYY aBB aMX aRR pa_X4 ka_X4 kb_X4 k_arr rfl rfl rfl (fun h => by cases h) (List.all_eq_true.mp ob_Planner_fillCosts e he)
set_option maxRecDepth 100000 in
theorem ob_Planner_carryBack : tb_Planner_carryBack.all (fun e => a_okb po_X4 kI_X4 kL_X4 cX4_carryBack 8 none false e.1 e.2) = true := by decide +kernel
theorem ok_Planner_carryBack : ∀ e ∈ tb_Planner_carryBack, a_ok aYY aBB aMX aRR 51 e.1 e.2 := fun e he => a_okb_sound (mi := 51) aYY aBB aMX aRR pa_X4 ka_X4 kb_X4 k_arr rfl rfl rfl (fun h => by cases h) (List.all_eq_true.mp ob_Planner_carryBack e he)
set_option maxRecDepth 100000 in
theorem ob_Planner_mix : tb_Planner_mix.all (fun e => a_okb po_X4 kI_X4 kL_X4 cX4_mix 18 none false e.1 e.2) = true := by decide +kernel
theorem ok_Planner_mix : ∀ e ∈ tb_Planner_mix, a_ok aYY aBB aMX aRR 52 e.1 e.2 := fun e he => a_okb_sound (mi := 52) aYY aBB aMX aRR pa_X4 ka_X4 kb_X4 k_arr rfl rfl rfl (fun h => by cases h) (List.all_eq_true.mp ob_Planner_mix e he)
set_option maxRecDepth 100000 in
theorem ob_Planner_either : tb_Planner_either.all (fun e => a_okb po_X4 kI_X4 kL_X4 cX4_either 4 (some .long) false e.1 e.2) = true := by decide +kernel
theorem ok_Planner_either : ∀ e ∈ tb_Planner_either, a_ok aYY aBB aMX aRR 53 e.1 e.2 := fun e he => a_okb_sound (mi := 53) aYY aBB aMX aRR pa_X4 ka_X4 kb_X4 k_arr rfl rfl rfl (fun h => by cases h) (List.all_eq_true.mp ob_Planner_either e he)
set_option maxRecDepth 100000 in
theorem ob_Planner_keepHoldings : tb_Planner_keepHoldings.all (fun e => a_okb po_X4 kI_X4 kL_X4 cX4_keepHoldings 3 none false e.1 e.2) = true := by decide +kernel
theorem ok_Planner_keepHoldings : ∀ e ∈ tb_Planner_keepHoldings, a_ok aYY aBB aMX aRR 54 e.1 e.2 := fun e he => a_okb_sound (mi := 54) aYY aBB aMX aRR pa_X4 ka_X4 kb_X4 k_arr rfl rfl rfl (fun h => by cases h) (List.all_eq_true.mp ob_Planner_keepHoldings e he)
set_option maxRecDepth 100000 in
theorem ob_Planner_give : tb_Planner_give.all (fun e => a_okb po_X4 kI_X4 kL_X4 cX4_give 8 none false e.1 e.2) = true := by decide +kernel
theorem ok_Planner_give : ∀ e ∈ tb_Planner_give, a_ok aYY aBB aMX aRR 55 e.1 e.2 := fun e he => a_okb_sound (mi := 55) aYY aBB aMX aRR pa_X4 ka_X4 kb_X4 k_arr rfl rfl rfl (fun h => by cases h) (List.all_eq_true.mp ob_Planner_give e he)
set_option maxRecDepth 100000 in
theorem ob_Planner_sumUp : tb_Planner_sumUp.all (fun e => a_okb po_X4 kI_X4 kL_X4 cX4_sumUp 5 none false e.1 e.2) = true := by decide +kernel
theorem ok_Planner_sumUp : ∀ e ∈ tb_Planner_sumUp, a_ok aYY aBB aMX aRR 56 e.1 e.2 := fun e he => a_okb_sound (mi := 56) aYY aBB aMX aRR pa_X4 ka_X4 kb_X4 k_arr rfl rfl rfl (fun h => by cases h) (List.all_eq_true.mp ob_Planner_sumUp e he)
set_option maxRecDepth 100000 in
theorem ob_Planner_followFirst : tb_Planner_followFirst.all (fun e => a_okb po_X4 kI_X4 kL_X4 cX4_followFirst 5 none false e.1 e.2) = true := by decide +kernel
theorem ok_Planner_followFirst : ∀ e ∈ tb_Planner_followFirst, a_ok aYY aBB aMX aRR 57 e.1 e.2 := fun e he => a_okb_sound (mi := 57) aYY aBB aMX aRR pa_X4 ka_X4 kb_X4 k_arr rfl rfl rfl (fun h => by cases h) (List.all_eq_true.mp ob_Planner_followFirst e he)
set_option maxRecDepth 100000 in
theorem ob_Planner_passTo : tb_Planner_passTo.all (fun e => a_okb po_X4 kI_X4 kL_X4 cX4_passTo 7 (some .int) false e.1 e.2) = true := by decide +kernel
theorem ok_Planner_passTo : ∀ e ∈ tb_Planner_passTo, a_ok aYY aBB aMX aRR 58 e.1 e.2 := fun e he => a_okb_sound (mi := 58) aYY aBB aMX aRR pa_X4 ka_X4 kb_X4 k_arr rfl rfl rfl (fun h => by cases h) (List.all_eq_true.mp ob_Planner_passTo e he)
set_option maxRecDepth 100000 in
theorem ob_Prints_init : tb_Prints_init.all (fun e => a_okb po_X5 kI_X5 kL_X5 cX5_init 1 none true e.1 e.2) = true := by decide +kernel
theorem ok_Prints_init : ∀ e ∈ tb_Prints_init, a_ok aYY aBB aMX aRR 59 e.1 e.2 := fun e he => a_okb_sound (mi := 59) aYY aBB aMX aRR pa_X5 ka_X5 kb_X5 k_arr rfl rfl rfl (fun _ => rfl) (List.all_eq_true.mp ob_Prints_init e he)
set_option maxRecDepth 100000 in
theorem ob_Prints_gather : tb_Prints_gather.all (fun e => a_okb po_X5 kI_X5 kL_X5 cX5_gather 9 none false e.1 e.2) = true := by decide +kernel
theorem ok_Prints_gather : ∀ e ∈ tb_Prints_gather, a_ok aYY aBB aMX aRR 60 e.1 e.2 := fun e he => a_okb_sound (mi := 60) aYY aBB aMX aRR pa_X5 ka_X5 kb_X5 k_arr rfl rfl rfl (fun h => by cases h) (List.all_eq_true.mp ob_Prints_gather e he)
set_option maxRecDepth 100000 in
theorem ob_Prints_staysWithin : tb_Prints_staysWithin.all (fun e => a_okb po_X5 kI_X5 kL_X5 cX5_staysWithin 12 (some .boolean) false e.1 e.2) = true := by decide +kernel
theorem ok_Prints_staysWithin : ∀ e ∈ tb_Prints_staysWithin, a_ok aYY aBB aMX aRR 61 e.1 e.2 := fun e he => a_okb_sound (mi := 61) aYY aBB aMX aRR pa_X5 ka_X5 kb_X5 k_arr rfl rfl rfl (fun h => by cases h) (List.all_eq_true.mp ob_Prints_staysWithin e he)
set_option maxRecDepth 100000 in
theorem ob_Prints_maskAt : tb_Prints_maskAt.all (fun e => a_okb po_X5 kI_X5 kL_X5 cX5_maskAt 11 (some .long) false e.1 e.2) = true := by decide +kernel
theorem ok_Prints_maskAt : ∀ e ∈ tb_Prints_maskAt, a_ok aYY aBB aMX aRR 62 e.1 e.2 := fun e he => a_okb_sound (mi := 62) aYY aBB aMX aRR pa_X5 ka_X5 kb_X5 k_arr rfl rfl rfl (fun h => by cases h) (List.all_eq_true.mp ob_Prints_maskAt e he)
set_option maxRecDepth 100000 in
theorem ob_Prints_add : tb_Prints_add.all (fun e => a_okb po_X5 kI_X5 kL_X5 cX5_add 7 none false e.1 e.2) = true := by decide +kernel
theorem ok_Prints_add : ∀ e ∈ tb_Prints_add, a_ok aYY aBB aMX aRR 63 e.1 e.2 := fun e he => a_okb_sound (mi := 63) aYY aBB aMX aRR pa_X5 ka_X5 kb_X5 k_arr rfl rfl rfl (fun h => by cases h) (List.all_eq_true.mp ob_Prints_add e he)
set_option maxRecDepth 100000 in
theorem ob_Reader_init : tb_Reader_init.all (fun e => a_okb po_X6 kI_X6 kL_X6 cX6_init 1 none true e.1 e.2) = true := by decide +kernel
theorem ok_Reader_init : ∀ e ∈ tb_Reader_init, a_ok aYY aBB aMX aRR 64 e.1 e.2 := fun e he => a_okb_sound (mi := 64) aYY aBB aMX aRR pa_X6 ka_X6 kb_X6 k_arr rfl rfl rfl (fun _ => rfl) (List.all_eq_true.mp ob_Reader_init e he)
set_option maxRecDepth 100000 in
theorem ob_Reader_readText : tb_Reader_readText.all (fun e => a_okb po_X6 kI_X6 kL_X6 cX6_readText 4 (some .boolean) false e.1 e.2) = true := by decide +kernel
theorem ok_Reader_readText : ∀ e ∈ tb_Reader_readText, a_ok aYY aBB aMX aRR 65 e.1 e.2 := fun e he => a_okb_sound (mi := 65) aYY aBB aMX aRR pa_X6 ka_X6 kb_X6 k_arr rfl rfl rfl (fun h => by cases h) (List.all_eq_true.mp ob_Reader_readText e he)
set_option maxRecDepth 100000 in
theorem ob_Reader_tellMoves : tb_Reader_tellMoves.all (fun e => a_okb po_X6 kI_X6 kL_X6 cX6_tellMoves 5 none false e.1 e.2) = true := by decide +kernel
theorem ok_Reader_tellMoves : ∀ e ∈ tb_Reader_tellMoves, a_ok aYY aBB aMX aRR 66 e.1 e.2 := fun e he => a_okb_sound (mi := 66) aYY aBB aMX aRR pa_X6 ka_X6 kb_X6 k_arr rfl rfl rfl (fun h => by cases h) (List.all_eq_true.mp ob_Reader_tellMoves e he)
set_option maxRecDepth 100000 in
theorem ob_Reader_readClause : tb_Reader_readClause.all (fun e => a_okb po_X6 kI_X6 kL_X6 cX6_readClause 2 (some .boolean) false e.1 e.2) = true := by decide +kernel
theorem ok_Reader_readClause : ∀ e ∈ tb_Reader_readClause, a_ok aYY aBB aMX aRR 67 e.1 e.2 := fun e he => a_okb_sound (mi := 67) aYY aBB aMX aRR pa_X6 ka_X6 kb_X6 k_arr rfl rfl rfl (fun h => by cases h) (List.all_eq_true.mp ob_Reader_readClause e he)
set_option maxRecDepth 100000 in
theorem ob_Reader_readMove : tb_Reader_readMove.all (fun e => a_okb po_X6 kI_X6 kL_X6 cX6_readMove 2 (some .boolean) false e.1 e.2) = true := by decide +kernel
theorem ok_Reader_readMove : ∀ e ∈ tb_Reader_readMove, a_ok aYY aBB aMX aRR 68 e.1 e.2 := fun e he => a_okb_sound (mi := 68) aYY aBB aMX aRR pa_X6 ka_X6 kb_X6 k_arr rfl rfl rfl (fun h => by cases h) (List.all_eq_true.mp ob_Reader_readMove e he)
set_option maxRecDepth 100000 in
theorem ob_Reader_readLevel : tb_Reader_readLevel.all (fun e => a_okb po_X6 kI_X6 kL_X6 cX6_readLevel 6 (some .boolean) false e.1 e.2) = true := by decide +kernel
theorem ok_Reader_readLevel : ∀ e ∈ tb_Reader_readLevel, a_ok aYY aBB aMX aRR 69 e.1 e.2 := fun e he => a_okb_sound (mi := 69) aYY aBB aMX aRR pa_X6 ka_X6 kb_X6 k_arr rfl rfl rfl (fun h => by cases h) (List.all_eq_true.mp ob_Reader_readLevel e he)
set_option maxRecDepth 100000 in
theorem ob_Reader_operationAt : tb_Reader_operationAt.all (fun e => a_okb po_X6 kI_X6 kL_X6 cX6_operationAt 2 (some .int) false e.1 e.2) = true := by decide +kernel
theorem ok_Reader_operationAt : ∀ e ∈ tb_Reader_operationAt, a_ok aYY aBB aMX aRR 70 e.1 e.2 := fun e he => a_okb_sound (mi := 70) aYY aBB aMX aRR pa_X6 ka_X6 kb_X6 k_arr rfl rfl rfl (fun h => by cases h) (List.all_eq_true.mp ob_Reader_operationAt e he)
set_option maxRecDepth 100000 in
theorem ob_Reader_readPlain : tb_Reader_readPlain.all (fun e => a_okb po_X6 kI_X6 kL_X6 cX6_readPlain 4 (some .boolean) false e.1 e.2) = true := by decide +kernel
theorem ok_Reader_readPlain : ∀ e ∈ tb_Reader_readPlain, a_ok aYY aBB aMX aRR 71 e.1 e.2 := fun e he => a_okb_sound (mi := 71) aYY aBB aMX aRR pa_X6 ka_X6 kb_X6 k_arr rfl rfl rfl (fun h => by cases h) (List.all_eq_true.mp ob_Reader_readPlain e he)
set_option maxRecDepth 100000 in
theorem ob_Reader_readComparison : tb_Reader_readComparison.all (fun e => a_okb po_X6 kI_X6 kL_X6 cX6_readComparison 3 (some .boolean) false e.1 e.2) = true := by decide +kernel
theorem ok_Reader_readComparison : ∀ e ∈ tb_Reader_readComparison, a_ok aYY aBB aMX aRR 72 e.1 e.2 := fun e he => a_okb_sound (mi := 72) aYY aBB aMX aRR pa_X6 ka_X6 kb_X6 k_arr rfl rfl rfl (fun h => by cases h) (List.all_eq_true.mp ob_Reader_readComparison e he)
set_option maxRecDepth 100000 in
theorem ob_Reader_readWithin : tb_Reader_readWithin.all (fun e => a_okb po_X6 kI_X6 kL_X6 cX6_readWithin 4 (some .boolean) false e.1 e.2) = true := by decide +kernel
theorem ok_Reader_readWithin : ∀ e ∈ tb_Reader_readWithin, a_ok aYY aBB aMX aRR 73 e.1 e.2 := fun e he => a_okb_sound (mi := 73) aYY aBB aMX aRR pa_X6 ka_X6 kb_X6 k_arr rfl rfl rfl (fun h => by cases h) (List.all_eq_true.mp ob_Reader_readWithin e he)
set_option maxRecDepth 100000 in
theorem ob_Reader_readPart : tb_Reader_readPart.all (fun e => a_okb po_X6 kI_X6 kL_X6 cX6_readPart 4 (some .boolean) false e.1 e.2) = true := by decide +kernel
theorem ok_Reader_readPart : ∀ e ∈ tb_Reader_readPart, a_ok aYY aBB aMX aRR 74 e.1 e.2 := fun e he => a_okb_sound (mi := 74) aYY aBB aMX aRR pa_X6 ka_X6 kb_X6 k_arr rfl rfl rfl (fun h => by cases h) (List.all_eq_true.mp ob_Reader_readPart e he)
set_option maxRecDepth 100000 in
theorem ob_Reader_fail : tb_Reader_fail.all (fun e => a_okb po_X6 kI_X6 kL_X6 cX6_fail 1 (some .boolean) false e.1 e.2) = true := by decide +kernel
theorem ok_Reader_fail : ∀ e ∈ tb_Reader_fail, a_ok aYY aBB aMX aRR 75 e.1 e.2 := fun e he => a_okb_sound (mi := 75) aYY aBB aMX aRR pa_X6 ka_X6 kb_X6 k_arr rfl rfl rfl (fun h => by cases h) (List.all_eq_true.mp ob_Reader_fail e he)
set_option maxRecDepth 100000 in
theorem ob_Reader_take : tb_Reader_take.all (fun e => a_okb po_X6 kI_X6 kL_X6 cX6_take 2 (some .boolean) false e.1 e.2) = true := by decide +kernel
theorem ok_Reader_take : ∀ e ∈ tb_Reader_take, a_ok aYY aBB aMX aRR 76 e.1 e.2 := fun e he => a_okb_sound (mi := 76) aYY aBB aMX aRR pa_X6 ka_X6 kb_X6 k_arr rfl rfl rfl (fun h => by cases h) (List.all_eq_true.mp ob_Reader_take e he)
set_option maxRecDepth 100000 in
theorem ob_Reader_takeNumber : tb_Reader_takeNumber.all (fun e => a_okb po_X6 kI_X6 kL_X6 cX6_takeNumber 4 (some .boolean) false e.1 e.2) = true := by decide +kernel
theorem ok_Reader_takeNumber : ∀ e ∈ tb_Reader_takeNumber, a_ok aYY aBB aMX aRR 77 e.1 e.2 := fun e he => a_okb_sound (mi := 77) aYY aBB aMX aRR pa_X6 ka_X6 kb_X6 k_arr rfl rfl rfl (fun h => by cases h) (List.all_eq_true.mp ob_Reader_takeNumber e he)
set_option maxRecDepth 100000 in
theorem ob_Reader_advance : tb_Reader_advance.all (fun e => a_okb po_X6 kI_X6 kL_X6 cX6_advance 2 none false e.1 e.2) = true := by decide +kernel
theorem ok_Reader_advance : ∀ e ∈ tb_Reader_advance, a_ok aYY aBB aMX aRR 78 e.1 e.2 := fun e he => a_okb_sound (mi := 78) aYY aBB aMX aRR pa_X6 ka_X6 kb_X6 k_arr rfl rfl rfl (fun h => by cases h) (List.all_eq_true.mp ob_Reader_advance e he)
set_option maxRecDepth 100000 in
theorem ob_Reader_wordBetween : tb_Reader_wordBetween.all (fun e => a_okb po_X6 kI_X6 kL_X6 cX6_wordBetween 8 (some .int) false e.1 e.2) = true := by decide +kernel
theorem ok_Reader_wordBetween : ∀ e ∈ tb_Reader_wordBetween, a_ok aYY aBB aMX aRR 79 e.1 e.2 := fun e he => a_okb_sound (mi := 79) aYY aBB aMX aRR pa_X6 ka_X6 kb_X6 k_arr rfl rfl rfl (fun h => by cases h) (List.all_eq_true.mp ob_Reader_wordBetween e he)
set_option maxRecDepth 100000 in
theorem ob_Scene_init : tb_Scene_init.all (fun e => a_okb po_X7 kI_X7 kL_X7 cX7_init 1 none true e.1 e.2) = true := by decide +kernel
theorem ok_Scene_init : ∀ e ∈ tb_Scene_init, a_ok aYY aBB aMX aRR 80 e.1 e.2 := fun e he => a_okb_sound (mi := 80) aYY aBB aMX aRR pa_X7 ka_X7 kb_X7 k_arr rfl rfl rfl (fun _ => rfl) (List.all_eq_true.mp ob_Scene_init e he)
set_option maxRecDepth 100000 in
theorem ob_Scene_has : tb_Scene_has.all (fun e => a_okb po_X7 kI_X7 kL_X7 cX7_has 2 (some .boolean) false e.1 e.2) = true := by decide +kernel
theorem ok_Scene_has : ∀ e ∈ tb_Scene_has, a_ok aYY aBB aMX aRR 81 e.1 e.2 := fun e he => a_okb_sound (mi := 81) aYY aBB aMX aRR pa_X7 ka_X7 kb_X7 k_arr rfl rfl rfl (fun h => by cases h) (List.all_eq_true.mp ob_Scene_has e he)
set_option maxRecDepth 100000 in
theorem ob_Scene_isOn : tb_Scene_isOn.all (fun e => a_okb po_X7 kI_X7 kL_X7 cX7_isOn 3 (some .boolean) false e.1 e.2) = true := by decide +kernel
theorem ok_Scene_isOn : ∀ e ∈ tb_Scene_isOn, a_ok aYY aBB aMX aRR 82 e.1 e.2 := fun e he => a_okb_sound (mi := 82) aYY aBB aMX aRR pa_X7 ka_X7 kb_X7 k_arr rfl rfl rfl (fun h => by cases h) (List.all_eq_true.mp ob_Scene_isOn e he)
set_option maxRecDepth 100000 in
theorem ob_Scene_depth : tb_Scene_depth.all (fun e => a_okb po_X7 kI_X7 kL_X7 cX7_depth 3 (some .int) false e.1 e.2) = true := by decide +kernel
theorem ok_Scene_depth : ∀ e ∈ tb_Scene_depth, a_ok aYY aBB aMX aRR 83 e.1 e.2 := fun e he => a_okb_sound (mi := 83) aYY aBB aMX aRR pa_X7 ka_X7 kb_X7 k_arr rfl rfl rfl (fun h => by cases h) (List.all_eq_true.mp ob_Scene_depth e he)
set_option maxRecDepth 100000 in
theorem ob_Scene_onBits : tb_Scene_onBits.all (fun e => a_okb po_X7 kI_X7 kL_X7 cX7_onBits 4 (some .int) false e.1 e.2) = true := by decide +kernel
theorem ok_Scene_onBits : ∀ e ∈ tb_Scene_onBits, a_ok aYY aBB aMX aRR 84 e.1 e.2 := fun e he => a_okb_sound (mi := 84) aYY aBB aMX aRR pa_X7 ka_X7 kb_X7 k_arr rfl rfl rfl (fun h => by cases h) (List.all_eq_true.mp ob_Scene_onBits e he)
set_option maxRecDepth 100000 in
theorem ob_Scene_put : tb_Scene_put.all (fun e => a_okb po_X7 kI_X7 kL_X7 cX7_put 7 none false e.1 e.2) = true := by decide +kernel
theorem ok_Scene_put : ∀ e ∈ tb_Scene_put, a_ok aYY aBB aMX aRR 85 e.1 e.2 := fun e he => a_okb_sound (mi := 85) aYY aBB aMX aRR pa_X7 ka_X7 kb_X7 k_arr rfl rfl rfl (fun h => by cases h) (List.all_eq_true.mp ob_Scene_put e he)
set_option maxRecDepth 100000 in
theorem ob_Scene_stays : tb_Scene_stays.all (fun e => a_okb po_X7 kI_X7 kL_X7 cX7_stays 4 (some .boolean) false e.1 e.2) = true := by decide +kernel
theorem ok_Scene_stays : ∀ e ∈ tb_Scene_stays, a_ok aYY aBB aMX aRR 86 e.1 e.2 := fun e he => a_okb_sound (mi := 86) aYY aBB aMX aRR pa_X7 ka_X7 kb_X7 k_arr rfl rfl rfl (fun h => by cases h) (List.all_eq_true.mp ob_Scene_stays e he)
set_option maxRecDepth 100000 in
theorem ob_Scene_toldCells : tb_Scene_toldCells.all (fun e => a_okb po_X7 kI_X7 kL_X7 cX7_toldCells 3 (some .int) false e.1 e.2) = true := by decide +kernel
theorem ok_Scene_toldCells : ∀ e ∈ tb_Scene_toldCells, a_ok aYY aBB aMX aRR 87 e.1 e.2 := fun e he => a_okb_sound (mi := 87) aYY aBB aMX aRR pa_X7 ka_X7 kb_X7 k_arr rfl rfl rfl (fun h => by cases h) (List.all_eq_true.mp ob_Scene_toldCells e he)
set_option maxRecDepth 100000 in
theorem ob_Scene_takeFrom : tb_Scene_takeFrom.all (fun e => a_okb po_X7 kI_X7 kL_X7 cX7_takeFrom 2 none false e.1 e.2) = true := by decide +kernel
theorem ok_Scene_takeFrom : ∀ e ∈ tb_Scene_takeFrom, a_ok aYY aBB aMX aRR 88 e.1 e.2 := fun e he => a_okb_sound (mi := 88) aYY aBB aMX aRR pa_X7 ka_X7 kb_X7 k_arr rfl rfl rfl (fun h => by cases h) (List.all_eq_true.mp ob_Scene_takeFrom e he)
set_option maxRecDepth 100000 in
theorem ob_Script_init : tb_Script_init.all (fun e => a_okb po_X8 kI_X8 kL_X8 cX8_init 1 none true e.1 e.2) = true := by decide +kernel
theorem ok_Script_init : ∀ e ∈ tb_Script_init, a_ok aYY aBB aMX aRR 89 e.1 e.2 := fun e he => a_okb_sound (mi := 89) aYY aBB aMX aRR pa_X8 ka_X8 kb_X8 k_arr rfl rfl rfl (fun _ => rfl) (List.all_eq_true.mp ob_Script_init e he)
set_option maxRecDepth 100000 in
theorem ob_Script_clear : tb_Script_clear.all (fun e => a_okb po_X8 kI_X8 kL_X8 cX8_clear 1 none false e.1 e.2) = true := by decide +kernel
theorem ok_Script_clear : ∀ e ∈ tb_Script_clear, a_ok aYY aBB aMX aRR 90 e.1 e.2 := fun e he => a_okb_sound (mi := 90) aYY aBB aMX aRR pa_X8 ka_X8 kb_X8 k_arr rfl rfl rfl (fun h => by cases h) (List.all_eq_true.mp ob_Script_clear e he)
set_option maxRecDepth 100000 in
theorem ob_Script_add : tb_Script_add.all (fun e => a_okb po_X8 kI_X8 kL_X8 cX8_add 3 none false e.1 e.2) = true := by decide +kernel
theorem ok_Script_add : ∀ e ∈ tb_Script_add, a_ok aYY aBB aMX aRR 91 e.1 e.2 := fun e he => a_okb_sound (mi := 91) aYY aBB aMX aRR pa_X8 ka_X8 kb_X8 k_arr rfl rfl rfl (fun h => by cases h) (List.all_eq_true.mp ob_Script_add e he)
set_option maxRecDepth 100000 in
theorem ob_Script_jumpToHere : tb_Script_jumpToHere.all (fun e => a_okb po_X8 kI_X8 kL_X8 cX8_jumpToHere 2 none false e.1 e.2) = true := by decide +kernel
theorem ok_Script_jumpToHere : ∀ e ∈ tb_Script_jumpToHere, a_ok aYY aBB aMX aRR 92 e.1 e.2 := fun e he => a_okb_sound (mi := 92) aYY aBB aMX aRR pa_X8 ka_X8 kb_X8 k_arr rfl rfl rfl (fun h => by cases h) (List.all_eq_true.mp ob_Script_jumpToHere e he)
set_option maxRecDepth 100000 in
theorem ob_Script_startLaw : tb_Script_startLaw.all (fun e => a_okb po_X8 kI_X8 kL_X8 cX8_startLaw 2 none false e.1 e.2) = true := by decide +kernel
theorem ok_Script_startLaw : ∀ e ∈ tb_Script_startLaw, a_ok aYY aBB aMX aRR 93 e.1 e.2 := fun e he => a_okb_sound (mi := 93) aYY aBB aMX aRR pa_X8 ka_X8 kb_X8 k_arr rfl rfl rfl (fun h => by cases h) (List.all_eq_true.mp ob_Script_startLaw e he)
set_option maxRecDepth 100000 in
theorem ob_Script_startTest : tb_Script_startTest.all (fun e => a_okb po_X8 kI_X8 kL_X8 cX8_startTest 1 none false e.1 e.2) = true := by decide +kernel
theorem ok_Script_startTest : ∀ e ∈ tb_Script_startTest, a_ok aYY aBB aMX aRR 94 e.1 e.2 := fun e he => a_okb_sound (mi := 94) aYY aBB aMX aRR pa_X8 ka_X8 kb_X8 k_arr rfl rfl rfl (fun h => by cases h) (List.all_eq_true.mp ob_Script_startTest e he)
set_option maxRecDepth 100000 in
theorem ob_Script_endLaw : tb_Script_endLaw.all (fun e => a_okb po_X8 kI_X8 kL_X8 cX8_endLaw 1 none false e.1 e.2) = true := by decide +kernel
theorem ok_Script_endLaw : ∀ e ∈ tb_Script_endLaw, a_ok aYY aBB aMX aRR 95 e.1 e.2 := fun e he => a_okb_sound (mi := 95) aYY aBB aMX aRR pa_X8 ka_X8 kb_X8 k_arr rfl rfl rfl (fun h => by cases h) (List.all_eq_true.mp ob_Script_endLaw e he)
set_option maxRecDepth 100000 in
theorem ob_Script_takeFrom : tb_Script_takeFrom.all (fun e => a_okb po_X8 kI_X8 kL_X8 cX8_takeFrom 2 none false e.1 e.2) = true := by decide +kernel
theorem ok_Script_takeFrom : ∀ e ∈ tb_Script_takeFrom, a_ok aYY aBB aMX aRR 96 e.1 e.2 := fun e he => a_okb_sound (mi := 96) aYY aBB aMX aRR pa_X8 ka_X8 kb_X8 k_arr rfl rfl rfl (fun h => by cases h) (List.all_eq_true.mp ob_Script_takeFrom e he)
set_option maxRecDepth 100000 in
theorem ob_Target_init : tb_Target_init.all (fun e => a_okb po_X9 kI_X9 kL_X9 cX9_init 1 none true e.1 e.2) = true := by decide +kernel
theorem ok_Target_init : ∀ e ∈ tb_Target_init, a_ok aYY aBB aMX aRR 97 e.1 e.2 := fun e he => a_okb_sound (mi := 97) aYY aBB aMX aRR pa_X9 ka_X9 kb_X9 k_arr rfl rfl rfl (fun _ => rfl) (List.all_eq_true.mp ob_Target_init e he)
set_option maxRecDepth 100000 in
theorem ob_Target_lookAt : tb_Target_lookAt.all (fun e => a_okb po_X9 kI_X9 kL_X9 cX9_lookAt 4 none false e.1 e.2) = true := by decide +kernel
theorem ok_Target_lookAt : ∀ e ∈ tb_Target_lookAt, a_ok aYY aBB aMX aRR 98 e.1 e.2 := fun e he => a_okb_sound (mi := 98) aYY aBB aMX aRR pa_X9 ka_X9 kb_X9 k_arr rfl rfl rfl (fun h => by cases h) (List.all_eq_true.mp ob_Target_lookAt e he)
set_option maxRecDepth 100000 in
theorem ob_Target_lookFrom : tb_Target_lookFrom.all (fun e => a_okb po_X9 kI_X9 kL_X9 cX9_lookFrom 7 none false e.1 e.2) = true := by decide +kernel
theorem ok_Target_lookFrom : ∀ e ∈ tb_Target_lookFrom, a_ok aYY aBB aMX aRR 99 e.1 e.2 := fun e he => a_okb_sound (mi := 99) aYY aBB aMX aRR pa_X9 ka_X9 kb_X9 k_arr rfl rfl rfl (fun h => by cases h) (List.all_eq_true.mp ob_Target_lookFrom e he)
set_option maxRecDepth 100000 in
theorem ob_Cp_init : tb_Cp_init.all (fun e => a_okb po_X10 kI_X10 kL_X10 cX10_init 1 none true e.1 e.2) = true := by decide +kernel
theorem ok_Cp_init : ∀ e ∈ tb_Cp_init, a_ok aYY aBB aMX aRR 100 e.1 e.2 := fun e he => a_okb_sound (mi := 100) aYY aBB aMX aRR pa_X10 ka_X10 kb_X10 k_arr rfl rfl rfl (fun _ => rfl) (List.all_eq_true.mp ob_Cp_init e he)
set_option maxRecDepth 100000 in
theorem ob_Cp_figure : tb_Cp_figure.all (fun e => a_okb po_X10 kI_X10 kL_X10 cX10_figure 3 (some .int) false e.1 e.2) = true := by decide +kernel
theorem ok_Cp_figure : ∀ e ∈ tb_Cp_figure, a_ok aYY aBB aMX aRR 101 e.1 e.2 := fun e he => a_okb_sound (mi := 101) aYY aBB aMX aRR pa_X10 ka_X10 kb_X10 k_arr rfl rfl rfl (fun h => by cases h) (List.all_eq_true.mp ob_Cp_figure e he)
set_option maxRecDepth 100000 in
theorem ob_Cp_sticks : tb_Cp_sticks.all (fun e => a_okb po_X10 kI_X10 kL_X10 cX10_sticks 4 (some .int) false e.1 e.2) = true := by decide +kernel
theorem ok_Cp_sticks : ∀ e ∈ tb_Cp_sticks, a_ok aYY aBB aMX aRR 102 e.1 e.2 := fun e he => a_okb_sound (mi := 102) aYY aBB aMX aRR pa_X10 ka_X10 kb_X10 k_arr rfl rfl rfl (fun h => by cases h) (List.all_eq_true.mp ob_Cp_sticks e he)
set_option maxRecDepth 100000 in
theorem ob_Cp_terms : tb_Cp_terms.all (fun e => a_okb po_X10 kI_X10 kL_X10 cX10_terms 4 (some .int) false e.1 e.2) = true := by decide +kernel
theorem ok_Cp_terms : ∀ e ∈ tb_Cp_terms, a_ok aYY aBB aMX aRR 103 e.1 e.2 := fun e he => a_okb_sound (mi := 103) aYY aBB aMX aRR pa_X10 ka_X10 kb_X10 k_arr rfl rfl rfl (fun h => by cases h) (List.all_eq_true.mp ob_Cp_terms e he)
set_option maxRecDepth 100000 in
theorem ob_Cp_on : tb_Cp_on.all (fun e => a_okb po_X10 kI_X10 kL_X10 cX10_on 6 (some .int) false e.1 e.2) = true := by decide +kernel
theorem ok_Cp_on : ∀ e ∈ tb_Cp_on, a_ok aYY aBB aMX aRR 104 e.1 e.2 := fun e he => a_okb_sound (mi := 104) aYY aBB aMX aRR pa_X10 ka_X10 kb_X10 k_arr rfl rfl rfl (fun h => by cases h) (List.all_eq_true.mp ob_Cp_on e he)
set_option maxRecDepth 100000 in
theorem ob_Cp_off : tb_Cp_off.all (fun e => a_okb po_X10 kI_X10 kL_X10 cX10_off 4 (some .int) false e.1 e.2) = true := by decide +kernel
theorem ok_Cp_off : ∀ e ∈ tb_Cp_off, a_ok aYY aBB aMX aRR 105 e.1 e.2 := fun e he => a_okb_sound (mi := 105) aYY aBB aMX aRR pa_X10 ka_X10 kb_X10 k_arr rfl rfl rfl (fun h => by cases h) (List.all_eq_true.mp ob_Cp_off e he)
set_option maxRecDepth 100000 in
theorem ob_Cp_of : tb_Cp_of.all (fun e => a_okb po_X10 kI_X10 kL_X10 cX10_of 5 (some .int) false e.1 e.2) = true := by decide +kernel
theorem ok_Cp_of : ∀ e ∈ tb_Cp_of, a_ok aYY aBB aMX aRR 106 e.1 e.2 := fun e he => a_okb_sound (mi := 106) aYY aBB aMX aRR pa_X10 ka_X10 kb_X10 k_arr rfl rfl rfl (fun h => by cases h) (List.all_eq_true.mp ob_Cp_of e he)
set_option maxRecDepth 100000 in
theorem ob_Cp_feed : tb_Cp_feed.all (fun e => a_okb po_X10 kI_X10 kL_X10 cX10_feed 6 (some .int) false e.1 e.2) = true := by decide +kernel
theorem ok_Cp_feed : ∀ e ∈ tb_Cp_feed, a_ok aYY aBB aMX aRR 107 e.1 e.2 := fun e he => a_okb_sound (mi := 107) aYY aBB aMX aRR pa_X10 ka_X10 kb_X10 k_arr rfl rfl rfl (fun h => by cases h) (List.all_eq_true.mp ob_Cp_feed e he)
set_option maxRecDepth 100000 in
theorem ob_Cp_end : tb_Cp_end.all (fun e => a_okb po_X10 kI_X10 kL_X10 cX10_end 2 (some .int) false e.1 e.2) = true := by decide +kernel
theorem ok_Cp_end : ∀ e ∈ tb_Cp_end, a_ok aYY aBB aMX aRR 108 e.1 e.2 := fun e he => a_okb_sound (mi := 108) aYY aBB aMX aRR pa_X10 ka_X10 kb_X10 k_arr rfl rfl rfl (fun h => by cases h) (List.all_eq_true.mp ob_Cp_end e he)
set_option maxRecDepth 100000 in
theorem ob_Cp_row : tb_Cp_row.all (fun e => a_okb po_X10 kI_X10 kL_X10 cX10_row 3 (some .int) false e.1 e.2) = true := by decide +kernel
theorem ok_Cp_row : ∀ e ∈ tb_Cp_row, a_ok aYY aBB aMX aRR 109 e.1 e.2 := fun e he => a_okb_sound (mi := 109) aYY aBB aMX aRR pa_X10 ka_X10 kb_X10 k_arr rfl rfl rfl (fun h => by cases h) (List.all_eq_true.mp ob_Cp_row e he)
set_option maxRecDepth 100000 in
theorem ob_Cp_torn : tb_Cp_torn.all (fun e => a_okb po_X10 kI_X10 kL_X10 cX10_torn 1 (some .int) false e.1 e.2) = true := by decide +kernel
theorem ok_Cp_torn : ∀ e ∈ tb_Cp_torn, a_ok aYY aBB aMX aRR 110 e.1 e.2 := fun e he => a_okb_sound (mi := 110) aYY aBB aMX aRR pa_X10 ka_X10 kb_X10 k_arr rfl rfl rfl (fun h => by cases h) (List.all_eq_true.mp ob_Cp_torn e he)
set_option maxRecDepth 100000 in
theorem ob_Cp_outline : tb_Cp_outline.all (fun e => a_okb po_X10 kI_X10 kL_X10 cX10_outline 3 (some .int) false e.1 e.2) = true := by decide +kernel
theorem ok_Cp_outline : ∀ e ∈ tb_Cp_outline, a_ok aYY aBB aMX aRR 111 e.1 e.2 := fun e he => a_okb_sound (mi := 111) aYY aBB aMX aRR pa_X10 ka_X10 kb_X10 k_arr rfl rfl rfl (fun h => by cases h) (List.all_eq_true.mp ob_Cp_outline e he)
set_option maxRecDepth 100000 in
theorem ob_Cp_play : tb_Cp_play.all (fun e => a_okb po_X10 kI_X10 kL_X10 cX10_play 2 (some .int) false e.1 e.2) = true := by decide +kernel
theorem ok_Cp_play : ∀ e ∈ tb_Cp_play, a_ok aYY aBB aMX aRR 112 e.1 e.2 := fun e he => a_okb_sound (mi := 112) aYY aBB aMX aRR pa_X10 ka_X10 kb_X10 k_arr rfl rfl rfl (fun h => by cases h) (List.all_eq_true.mp ob_Cp_play e he)
set_option maxRecDepth 100000 in
theorem ob_Cp_fault : tb_Cp_fault.all (fun e => a_okb po_X10 kI_X10 kL_X10 cX10_fault 1 (some .int) false e.1 e.2) = true := by decide +kernel
theorem ok_Cp_fault : ∀ e ∈ tb_Cp_fault, a_ok aYY aBB aMX aRR 113 e.1 e.2 := fun e he => a_okb_sound (mi := 113) aYY aBB aMX aRR pa_X10 ka_X10 kb_X10 k_arr rfl rfl rfl (fun h => by cases h) (List.all_eq_true.mp ob_Cp_fault e he)
set_option maxRecDepth 100000 in
theorem ob_Cp_shadow : tb_Cp_shadow.all (fun e => a_okb po_X10 kI_X10 kL_X10 cX10_shadow 4 (some .int) false e.1 e.2) = true := by decide +kernel
theorem ok_Cp_shadow : ∀ e ∈ tb_Cp_shadow, a_ok aYY aBB aMX aRR 114 e.1 e.2 := fun e he => a_okb_sound (mi := 114) aYY aBB aMX aRR pa_X10 ka_X10 kb_X10 k_arr rfl rfl rfl (fun h => by cases h) (List.all_eq_true.mp ob_Cp_shadow e he)
set_option maxRecDepth 100000 in
theorem ob_Cp_seen : tb_Cp_seen.all (fun e => a_okb po_X10 kI_X10 kL_X10 cX10_seen 4 (some .int) false e.1 e.2) = true := by decide +kernel
theorem ok_Cp_seen : ∀ e ∈ tb_Cp_seen, a_ok aYY aBB aMX aRR 115 e.1 e.2 := fun e he => a_okb_sound (mi := 115) aYY aBB aMX aRR pa_X10 ka_X10 kb_X10 k_arr rfl rfl rfl (fun h => by cases h) (List.all_eq_true.mp ob_Cp_seen e he)
set_option maxRecDepth 100000 in
theorem ob_Cp_common : tb_Cp_common.all (fun e => a_okb po_X10 kI_X10 kL_X10 cX10_common 4 (some .int) false e.1 e.2) = true := by decide +kernel
theorem ok_Cp_common : ∀ e ∈ tb_Cp_common, a_ok aYY aBB aMX aRR 116 e.1 e.2 := fun e he => a_okb_sound (mi := 116) aYY aBB aMX aRR pa_X10 ka_X10 kb_X10 k_arr rfl rfl rfl (fun h => by cases h) (List.all_eq_true.mp ob_Cp_common e he)
set_option maxRecDepth 100000 in
theorem ob_Cp_holds : tb_Cp_holds.all (fun e => a_okb po_X10 kI_X10 kL_X10 cX10_holds 4 (some .int) false e.1 e.2) = true := by decide +kernel
theorem ok_Cp_holds : ∀ e ∈ tb_Cp_holds, a_ok aYY aBB aMX aRR 117 e.1 e.2 := fun e he => a_okb_sound (mi := 117) aYY aBB aMX aRR pa_X10 ka_X10 kb_X10 k_arr rfl rfl rfl (fun h => by cases h) (List.all_eq_true.mp ob_Cp_holds e he)
set_option maxRecDepth 100000 in
theorem ob_Cp_holdings : tb_Cp_holdings.all (fun e => a_okb po_X10 kI_X10 kL_X10 cX10_holdings 2 (some .int) false e.1 e.2) = true := by decide +kernel
theorem ok_Cp_holdings : ∀ e ∈ tb_Cp_holdings, a_ok aYY aBB aMX aRR 118 e.1 e.2 := fun e he => a_okb_sound (mi := 118) aYY aBB aMX aRR pa_X10 ka_X10 kb_X10 k_arr rfl rfl rfl (fun h => by cases h) (List.all_eq_true.mp ob_Cp_holdings e he)
set_option maxRecDepth 100000 in
theorem ob_Cp_least : tb_Cp_least.all (fun e => a_okb po_X10 kI_X10 kL_X10 cX10_least 2 (some .int) false e.1 e.2) = true := by decide +kernel
theorem ok_Cp_least : ∀ e ∈ tb_Cp_least, a_ok aYY aBB aMX aRR 119 e.1 e.2 := fun e he => a_okb_sound (mi := 119) aYY aBB aMX aRR pa_X10 ka_X10 kb_X10 k_arr rfl rfl rfl (fun h => by cases h) (List.all_eq_true.mp ob_Cp_least e he)
set_option maxRecDepth 100000 in
theorem ob_Cp_holder : tb_Cp_holder.all (fun e => a_okb po_X10 kI_X10 kL_X10 cX10_holder 3 (some .int) false e.1 e.2) = true := by decide +kernel
theorem ok_Cp_holder : ∀ e ∈ tb_Cp_holder, a_ok aYY aBB aMX aRR 120 e.1 e.2 := fun e he => a_okb_sound (mi := 120) aYY aBB aMX aRR pa_X10 ka_X10 kb_X10 k_arr rfl rfl rfl (fun h => by cases h) (List.all_eq_true.mp ob_Cp_holder e he)
set_option maxRecDepth 100000 in
theorem ob_Cp_passed : tb_Cp_passed.all (fun e => a_okb po_X10 kI_X10 kL_X10 cX10_passed 2 (some .int) false e.1 e.2) = true := by decide +kernel
theorem ok_Cp_passed : ∀ e ∈ tb_Cp_passed, a_ok aYY aBB aMX aRR 121 e.1 e.2 := fun e he => a_okb_sound (mi := 121) aYY aBB aMX aRR pa_X10 ka_X10 kb_X10 k_arr rfl rfl rfl (fun h => by cases h) (List.all_eq_true.mp ob_Cp_passed e he)
set_option maxRecDepth 100000 in
theorem ob_Cp_fewest : tb_Cp_fewest.all (fun e => a_okb po_X10 kI_X10 kL_X10 cX10_fewest 2 (some .int) false e.1 e.2) = true := by decide +kernel
theorem ok_Cp_fewest : ∀ e ∈ tb_Cp_fewest, a_ok aYY aBB aMX aRR 122 e.1 e.2 := fun e he => a_okb_sound (mi := 122) aYY aBB aMX aRR pa_X10 ka_X10 kb_X10 k_arr rfl rfl rfl (fun h => by cases h) (List.all_eq_true.mp ob_Cp_fewest e he)
set_option maxRecDepth 100000 in
theorem ob_Cp_barred : tb_Cp_barred.all (fun e => a_okb po_X10 kI_X10 kL_X10 cX10_barred 3 (some .int) false e.1 e.2) = true := by decide +kernel
theorem ok_Cp_barred : ∀ e ∈ tb_Cp_barred, a_ok aYY aBB aMX aRR 123 e.1 e.2 := fun e he => a_okb_sound (mi := 123) aYY aBB aMX aRR pa_X10 ka_X10 kb_X10 k_arr rfl rfl rfl (fun h => by cases h) (List.all_eq_true.mp ob_Cp_barred e he)
set_option maxRecDepth 100000 in
theorem ob_Cp_made : tb_Cp_made.all (fun e => a_okb po_X10 kI_X10 kL_X10 cX10_made 3 (some .int) false e.1 e.2) = true := by decide +kernel
theorem ok_Cp_made : ∀ e ∈ tb_Cp_made, a_ok aYY aBB aMX aRR 124 e.1 e.2 := fun e he => a_okb_sound (mi := 124) aYY aBB aMX aRR pa_X10 ka_X10 kb_X10 k_arr rfl rfl rfl (fun h => by cases h) (List.all_eq_true.mp ob_Cp_made e he)
set_option maxRecDepth 100000 in
theorem ob_Cp_who : tb_Cp_who.all (fun e => a_okb po_X10 kI_X10 kL_X10 cX10_who 4 (some .int) false e.1 e.2) = true := by decide +kernel
theorem ok_Cp_who : ∀ e ∈ tb_Cp_who, a_ok aYY aBB aMX aRR 125 e.1 e.2 := fun e he => a_okb_sound (mi := 125) aYY aBB aMX aRR pa_X10 ka_X10 kb_X10 k_arr rfl rfl rfl (fun h => by cases h) (List.all_eq_true.mp ob_Cp_who e he)
set_option maxRecDepth 100000 in
theorem ob_Cp_sheet : tb_Cp_sheet.all (fun e => a_okb po_X10 kI_X10 kL_X10 cX10_sheet 2 (some .int) false e.1 e.2) = true := by decide +kernel
theorem ok_Cp_sheet : ∀ e ∈ tb_Cp_sheet, a_ok aYY aBB aMX aRR 126 e.1 e.2 := fun e he => a_okb_sound (mi := 126) aYY aBB aMX aRR pa_X10 ka_X10 kb_X10 k_arr rfl rfl rfl (fun h => by cases h) (List.all_eq_true.mp ob_Cp_sheet e he)
set_option maxRecDepth 100000 in
theorem ob_Cp_copy : tb_Cp_copy.all (fun e => a_okb po_X10 kI_X10 kL_X10 cX10_copy 3 (some .int) false e.1 e.2) = true := by decide +kernel
theorem ok_Cp_copy : ∀ e ∈ tb_Cp_copy, a_ok aYY aBB aMX aRR 127 e.1 e.2 := fun e he => a_okb_sound (mi := 127) aYY aBB aMX aRR pa_X10 ka_X10 kb_X10 k_arr rfl rfl rfl (fun h => by cases h) (List.all_eq_true.mp ob_Cp_copy e he)
set_option maxRecDepth 100000 in
theorem ob_Cp_show : tb_Cp_show.all (fun e => a_okb po_X10 kI_X10 kL_X10 cX10_show 7 (some .int) false e.1 e.2) = true := by decide +kernel
theorem ok_Cp_show : ∀ e ∈ tb_Cp_show, a_ok aYY aBB aMX aRR 128 e.1 e.2 := fun e he => a_okb_sound (mi := 128) aYY aBB aMX aRR pa_X10 ka_X10 kb_X10 k_arr rfl rfl rfl (fun h => by cases h) (List.all_eq_true.mp ob_Cp_show e he)
set_option maxRecDepth 100000 in
theorem ob_Cp_slipped : tb_Cp_slipped.all (fun e => a_okb po_X10 kI_X10 kL_X10 cX10_slipped 2 (some .int) false e.1 e.2) = true := by decide +kernel
theorem ok_Cp_slipped : ∀ e ∈ tb_Cp_slipped, a_ok aYY aBB aMX aRR 129 e.1 e.2 := fun e he => a_okb_sound (mi := 129) aYY aBB aMX aRR pa_X10 ka_X10 kb_X10 k_arr rfl rfl rfl (fun h => by cases h) (List.all_eq_true.mp ob_Cp_slipped e he)
set_option maxRecDepth 100000 in
theorem ob_Cp_image : tb_Cp_image.all (fun e => a_okb po_X10 kI_X10 kL_X10 cX10_image 3 (some .int) false e.1 e.2) = true := by decide +kernel
theorem ok_Cp_image : ∀ e ∈ tb_Cp_image, a_ok aYY aBB aMX aRR 130 e.1 e.2 := fun e he => a_okb_sound (mi := 130) aYY aBB aMX aRR pa_X10 ka_X10 kb_X10 k_arr rfl rfl rfl (fun h => by cases h) (List.all_eq_true.mp ob_Cp_image e he)
set_option maxRecDepth 100000 in
theorem ob_Cp_back : tb_Cp_back.all (fun e => a_okb po_X10 kI_X10 kL_X10 cX10_back 3 (some .int) false e.1 e.2) = true := by decide +kernel
theorem ok_Cp_back : ∀ e ∈ tb_Cp_back, a_ok aYY aBB aMX aRR 131 e.1 e.2 := fun e he => a_okb_sound (mi := 131) aYY aBB aMX aRR pa_X10 ka_X10 kb_X10 k_arr rfl rfl rfl (fun h => by cases h) (List.all_eq_true.mp ob_Cp_back e he)
set_option maxRecDepth 100000 in
theorem ob_Cp_count : tb_Cp_count.all (fun e => a_okb po_X10 kI_X10 kL_X10 cX10_count 2 (some .int) false e.1 e.2) = true := by decide +kernel
theorem ok_Cp_count : ∀ e ∈ tb_Cp_count, a_ok aYY aBB aMX aRR 132 e.1 e.2 := fun e he => a_okb_sound (mi := 132) aYY aBB aMX aRR pa_X10 ka_X10 kb_X10 k_arr rfl rfl rfl (fun h => by cases h) (List.all_eq_true.mp ob_Cp_count e he)
set_option maxRecDepth 100000 in
theorem ob_Cp_status : tb_Cp_status.all (fun e => a_okb po_X10 kI_X10 kL_X10 cX10_status 1 (some .int) false e.1 e.2) = true := by decide +kernel
theorem ok_Cp_status : ∀ e ∈ tb_Cp_status, a_ok aYY aBB aMX aRR 133 e.1 e.2 := fun e he => a_okb_sound (mi := 133) aYY aBB aMX aRR pa_X10 ka_X10 kb_X10 k_arr rfl rfl rfl (fun h => by cases h) (List.all_eq_true.mp ob_Cp_status e he)
set_option maxRecDepth 100000 in
theorem ob_Cp_isBeat : tb_Cp_isBeat.all (fun e => a_okb po_X10 kI_X10 kL_X10 cX10_isBeat 1 (some .boolean) false e.1 e.2) = true := by decide +kernel
theorem ok_Cp_isBeat : ∀ e ∈ tb_Cp_isBeat, a_ok aYY aBB aMX aRR 134 e.1 e.2 := fun e he => a_okb_sound (mi := 134) aYY aBB aMX aRR pa_X10 ka_X10 kb_X10 k_arr rfl rfl rfl (fun h => by cases h) (List.all_eq_true.mp ob_Cp_isBeat e he)
set_option maxRecDepth 100000 in
theorem ob_Cp_refuse : tb_Cp_refuse.all (fun e => a_okb po_X10 kI_X10 kL_X10 cX10_refuse 2 (some .int) false e.1 e.2) = true := by decide +kernel
theorem ok_Cp_refuse : ∀ e ∈ tb_Cp_refuse, a_ok aYY aBB aMX aRR 135 e.1 e.2 := fun e he => a_okb_sound (mi := 135) aYY aBB aMX aRR pa_X10 ka_X10 kb_X10 k_arr rfl rfl rfl (fun h => by cases h) (List.all_eq_true.mp ob_Cp_refuse e he)
set_option maxRecDepth 100000 in
theorem ob_Cp_accept : tb_Cp_accept.all (fun e => a_okb po_X10 kI_X10 kL_X10 cX10_accept 2 (some .int) false e.1 e.2) = true := by decide +kernel
theorem ok_Cp_accept : ∀ e ∈ tb_Cp_accept, a_ok aYY aBB aMX aRR 136 e.1 e.2 := fun e he => a_okb_sound (mi := 136) aYY aBB aMX aRR pa_X10 ka_X10 kb_X10 k_arr rfl rfl rfl (fun h => by cases h) (List.all_eq_true.mp ob_Cp_accept e he)
set_option maxRecDepth 100000 in
theorem ob_Cp_changeHands : tb_Cp_changeHands.all (fun e => a_okb po_X10 kI_X10 kL_X10 cX10_changeHands 1 none false e.1 e.2) = true := by decide +kernel
theorem ok_Cp_changeHands : ∀ e ∈ tb_Cp_changeHands, a_ok aYY aBB aMX aRR 137 e.1 e.2 := fun e he => a_okb_sound (mi := 137) aYY aBB aMX aRR pa_X10 ka_X10 kb_X10 k_arr rfl rfl rfl (fun h => by cases h) (List.all_eq_true.mp ob_Cp_changeHands e he)
set_option maxRecDepth 100000 in
theorem ob_Cp_changeCast : tb_Cp_changeCast.all (fun e => a_okb po_X10 kI_X10 kL_X10 cX10_changeCast 1 none false e.1 e.2) = true := by decide +kernel
theorem ok_Cp_changeCast : ∀ e ∈ tb_Cp_changeCast, a_ok aYY aBB aMX aRR 138 e.1 e.2 := fun e he => a_okb_sound (mi := 138) aYY aBB aMX aRR pa_X10 ka_X10 kb_X10 k_arr rfl rfl rfl (fun h => by cases h) (List.all_eq_true.mp ob_Cp_changeCast e he)
set_option maxRecDepth 100000 in
theorem ob_Cp_canBeAsked : tb_Cp_canBeAsked.all (fun e => a_okb po_X10 kI_X10 kL_X10 cX10_canBeAsked 2 (some .boolean) false e.1 e.2) = true := by decide +kernel
theorem ok_Cp_canBeAsked : ∀ e ∈ tb_Cp_canBeAsked, a_ok aYY aBB aMX aRR 139 e.1 e.2 := fun e he => a_okb_sound (mi := 139) aYY aBB aMX aRR pa_X10 ka_X10 kb_X10 k_arr rfl rfl rfl (fun h => by cases h) (List.all_eq_true.mp ob_Cp_canBeAsked e he)
set_option maxRecDepth 100000 in
theorem ob_Cp_writeWord : tb_Cp_writeWord.all (fun e => a_okb po_X10 kI_X10 kL_X10 cX10_writeWord 3 none false e.1 e.2) = true := by decide +kernel
theorem ok_Cp_writeWord : ∀ e ∈ tb_Cp_writeWord, a_ok aYY aBB aMX aRR 140 e.1 e.2 := fun e he => a_okb_sound (mi := 140) aYY aBB aMX aRR pa_X10 ka_X10 kb_X10 k_arr rfl rfl rfl (fun h => by cases h) (List.all_eq_true.mp ob_Cp_writeWord e he)
set_option maxRecDepth 100000 in
theorem ob_Cp_takeOutline : tb_Cp_takeOutline.all (fun e => a_okb po_X10 kI_X10 kL_X10 cX10_takeOutline 5 (some .int) false e.1 e.2) = true := by decide +kernel
theorem ok_Cp_takeOutline : ∀ e ∈ tb_Cp_takeOutline, a_ok aYY aBB aMX aRR 141 e.1 e.2 := fun e he => a_okb_sound (mi := 141) aYY aBB aMX aRR pa_X10 ka_X10 kb_X10 k_arr rfl rfl rfl (fun h => by cases h) (List.all_eq_true.mp ob_Cp_takeOutline e he)
set_option maxRecDepth 100000 in
theorem ob_Cp_takeSheet : tb_Cp_takeSheet.all (fun e => a_okb po_X10 kI_X10 kL_X10 cX10_takeSheet 5 (some .int) false e.1 e.2) = true := by decide +kernel
theorem ok_Cp_takeSheet : ∀ e ∈ tb_Cp_takeSheet, a_ok aYY aBB aMX aRR 142 e.1 e.2 := fun e he => a_okb_sound (mi := 142) aYY aBB aMX aRR pa_X10 ka_X10 kb_X10 k_arr rfl rfl rfl (fun h => by cases h) (List.all_eq_true.mp ob_Cp_takeSheet e he)
set_option maxRecDepth 100000 in
theorem ob_Cp_countBeats : tb_Cp_countBeats.all (fun e => a_okb po_X10 kI_X10 kL_X10 cX10_countBeats 7 (some .int) false e.1 e.2) = true := by decide +kernel
theorem ok_Cp_countBeats : ∀ e ∈ tb_Cp_countBeats, a_ok aYY aBB aMX aRR 143 e.1 e.2 := fun e he => a_okb_sound (mi := 143) aYY aBB aMX aRR pa_X10 ka_X10 kb_X10 k_arr rfl rfl rfl (fun h => by cases h) (List.all_eq_true.mp ob_Cp_countBeats e he)
set_option maxRecDepth 100000 in
theorem ob_Mo_init : tb_Mo_init.all (fun e => a_okb po_X11 kI_X11 kL_X11 cX11_init 1 none true e.1 e.2) = true := by decide +kernel
theorem ok_Mo_init : ∀ e ∈ tb_Mo_init, a_ok aYY aBB aMX aRR 144 e.1 e.2 := fun e he => a_okb_sound (mi := 144) aYY aBB aMX aRR pa_X11 ka_X11 kb_X11 k_arr rfl rfl rfl (fun _ => rfl) (List.all_eq_true.mp ob_Mo_init e he)
set_option maxRecDepth 100000 in
theorem ob_Mo_in : tb_Mo_in.all (fun e => a_okb po_X11 kI_X11 kL_X11 cX11_in 6 (some .boolean) false e.1 e.2) = true := by decide +kernel
theorem ok_Mo_in : ∀ e ∈ tb_Mo_in, a_ok aYY aBB aMX aRR 145 e.1 e.2 := fun e he => a_okb_sound (mi := 145) aYY aBB aMX aRR pa_X11 ka_X11 kb_X11 k_arr rfl rfl rfl (fun h => by cases h) (List.all_eq_true.mp ob_Mo_in e he)
set_option maxRecDepth 100000 in
theorem ob_Mo_is : tb_Mo_is.all (fun e => a_okb po_X11 kI_X11 kL_X11 cX11_is 2 (some .boolean) false e.1 e.2) = true := by decide +kernel
theorem ok_Mo_is : ∀ e ∈ tb_Mo_is, a_ok aYY aBB aMX aRR 146 e.1 e.2 := fun e he => a_okb_sound (mi := 146) aYY aBB aMX aRR pa_X11 ka_X11 kb_X11 k_arr rfl rfl rfl (fun h => by cases h) (List.all_eq_true.mp ob_Mo_is e he)
set_option maxRecDepth 100000 in
theorem ob_Mo_tell : tb_Mo_tell.all (fun e => a_okb po_X11 kI_X11 kL_X11 cX11_tell 2 (some .int) false e.1 e.2) = true := by decide +kernel
theorem ok_Mo_tell : ∀ e ∈ tb_Mo_tell, a_ok aYY aBB aMX aRR 147 e.1 e.2 := fun e he => a_okb_sound (mi := 147) aYY aBB aMX aRR pa_X11 ka_X11 kb_X11 k_arr rfl rfl rfl (fun h => by cases h) (List.all_eq_true.mp ob_Mo_tell e he)
set_option maxRecDepth 100000 in
theorem ob_Mo_was : tb_Mo_was.all (fun e => a_okb po_X11 kI_X11 kL_X11 cX11_was 2 (some .int) false e.1 e.2) = true := by decide +kernel
theorem ok_Mo_was : ∀ e ∈ tb_Mo_was, a_ok aYY aBB aMX aRR 148 e.1 e.2 := fun e he => a_okb_sound (mi := 148) aYY aBB aMX aRR pa_X11 ka_X11 kb_X11 k_arr rfl rfl rfl (fun h => by cases h) (List.all_eq_true.mp ob_Mo_was e he)
set_option maxRecDepth 100000 in
theorem ob_Mo_change : tb_Mo_change.all (fun e => a_okb po_X11 kI_X11 kL_X11 cX11_change 4 (some .int) false e.1 e.2) = true := by decide +kernel
theorem ok_Mo_change : ∀ e ∈ tb_Mo_change, a_ok aYY aBB aMX aRR 149 e.1 e.2 := fun e he => a_okb_sound (mi := 149) aYY aBB aMX aRR pa_X11 ka_X11 kb_X11 k_arr rfl rfl rfl (fun h => by cases h) (List.all_eq_true.mp ob_Mo_change e he)
set_option maxRecDepth 100000 in
theorem ob_Mo_image : tb_Mo_image.all (fun e => a_okb po_X11 kI_X11 kL_X11 cX11_image 3 (some .int) false e.1 e.2) = true := by decide +kernel
theorem ok_Mo_image : ∀ e ∈ tb_Mo_image, a_ok aYY aBB aMX aRR 150 e.1 e.2 := fun e he => a_okb_sound (mi := 150) aYY aBB aMX aRR pa_X11 ka_X11 kb_X11 k_arr rfl rfl rfl (fun h => by cases h) (List.all_eq_true.mp ob_Mo_image e he)
set_option maxRecDepth 100000 in
theorem ob_Mo_back : tb_Mo_back.all (fun e => a_okb po_X11 kI_X11 kL_X11 cX11_back 3 (some .int) false e.1 e.2) = true := by decide +kernel
theorem ok_Mo_back : ∀ e ∈ tb_Mo_back, a_ok aYY aBB aMX aRR 151 e.1 e.2 := fun e he => a_okb_sound (mi := 151) aYY aBB aMX aRR pa_X11 ka_X11 kb_X11 k_arr rfl rfl rfl (fun h => by cases h) (List.all_eq_true.mp ob_Mo_back e he)
set_option maxRecDepth 100000 in
theorem ob_Mo_isFigure : tb_Mo_isFigure.all (fun e => a_okb po_X11 kI_X11 kL_X11 cX11_isFigure 2 (some .boolean) false e.1 e.2) = true := by decide +kernel
theorem ok_Mo_isFigure : ∀ e ∈ tb_Mo_isFigure, a_ok aYY aBB aMX aRR 152 e.1 e.2 := fun e he => a_okb_sound (mi := 152) aYY aBB aMX aRR pa_X11 ka_X11 kb_X11 k_arr rfl rfl rfl (fun h => by cases h) (List.all_eq_true.mp ob_Mo_isFigure e he)
set_option maxRecDepth 100000 in
theorem ob_Mo_isBeat : tb_Mo_isBeat.all (fun e => a_okb po_X11 kI_X11 kL_X11 cX11_isBeat 1 (some .boolean) false e.1 e.2) = true := by decide +kernel
theorem ok_Mo_isBeat : ∀ e ∈ tb_Mo_isBeat, a_ok aYY aBB aMX aRR 153 e.1 e.2 := fun e he => a_okb_sound (mi := 153) aYY aBB aMX aRR pa_X11 ka_X11 kb_X11 k_arr rfl rfl rfl (fun h => by cases h) (List.all_eq_true.mp ob_Mo_isBeat e he)
set_option maxRecDepth 100000 in
theorem ob_Mo_term : tb_Mo_term.all (fun e => a_okb po_X11 kI_X11 kL_X11 cX11_term 2 (some .int) false e.1 e.2) = true := by decide +kernel
theorem ok_Mo_term : ∀ e ∈ tb_Mo_term, a_ok aYY aBB aMX aRR 154 e.1 e.2 := fun e he => a_okb_sound (mi := 154) aYY aBB aMX aRR pa_X11 ka_X11 kb_X11 k_arr rfl rfl rfl (fun h => by cases h) (List.all_eq_true.mp ob_Mo_term e he)
set_option maxRecDepth 100000 in
theorem ob_Mo_placeOf : tb_Mo_placeOf.all (fun e => a_okb po_X11 kI_X11 kL_X11 cX11_placeOf 4 (some .int) false e.1 e.2) = true := by decide +kernel
theorem ok_Mo_placeOf : ∀ e ∈ tb_Mo_placeOf, a_ok aYY aBB aMX aRR 155 e.1 e.2 := fun e he => a_okb_sound (mi := 155) aYY aBB aMX aRR pa_X11 ka_X11 kb_X11 k_arr rfl rfl rfl (fun h => by cases h) (List.all_eq_true.mp ob_Mo_placeOf e he)
set_option maxRecDepth 100000 in
theorem ob_Mo_isOn : tb_Mo_isOn.all (fun e => a_okb po_X11 kI_X11 kL_X11 cX11_isOn 3 (some .boolean) false e.1 e.2) = true := by decide +kernel
theorem ok_Mo_isOn : ∀ e ∈ tb_Mo_isOn, a_ok aYY aBB aMX aRR 156 e.1 e.2 := fun e he => a_okb_sound (mi := 156) aYY aBB aMX aRR pa_X11 ka_X11 kb_X11 k_arr rfl rfl rfl (fun h => by cases h) (List.all_eq_true.mp ob_Mo_isOn e he)
set_option maxRecDepth 100000 in
theorem ob_Mo_deepOf : tb_Mo_deepOf.all (fun e => a_okb po_X11 kI_X11 kL_X11 cX11_deepOf 4 (some .int) false e.1 e.2) = true := by decide +kernel
theorem ok_Mo_deepOf : ∀ e ∈ tb_Mo_deepOf, a_ok aYY aBB aMX aRR 157 e.1 e.2 := fun e he => a_okb_sound (mi := 157) aYY aBB aMX aRR pa_X11 ka_X11 kb_X11 k_arr rfl rfl rfl (fun h => by cases h) (List.all_eq_true.mp ob_Mo_deepOf e he)
set_option maxRecDepth 100000 in
theorem ob_Mo_figure : tb_Mo_figure.all (fun e => a_okb po_X11 kI_X11 kL_X11 cX11_figure 3 (some .int) false e.1 e.2) = true := by decide +kernel
theorem ok_Mo_figure : ∀ e ∈ tb_Mo_figure, a_ok aYY aBB aMX aRR 158 e.1 e.2 := fun e he => a_okb_sound (mi := 158) aYY aBB aMX aRR pa_X11 ka_X11 kb_X11 k_arr rfl rfl rfl (fun h => by cases h) (List.all_eq_true.mp ob_Mo_figure e he)
set_option maxRecDepth 100000 in
theorem ob_Mo_sticks : tb_Mo_sticks.all (fun e => a_okb po_X11 kI_X11 kL_X11 cX11_sticks 3 (some .int) false e.1 e.2) = true := by decide +kernel
theorem ok_Mo_sticks : ∀ e ∈ tb_Mo_sticks, a_ok aYY aBB aMX aRR 159 e.1 e.2 := fun e he => a_okb_sound (mi := 159) aYY aBB aMX aRR pa_X11 ka_X11 kb_X11 k_arr rfl rfl rfl (fun h => by cases h) (List.all_eq_true.mp ob_Mo_sticks e he)
set_option maxRecDepth 100000 in
theorem ob_Mo_isTerm : tb_Mo_isTerm.all (fun e => a_okb po_X11 kI_X11 kL_X11 cX11_isTerm 2 (some .boolean) false e.1 e.2) = true := by decide +kernel
theorem ok_Mo_isTerm : ∀ e ∈ tb_Mo_isTerm, a_ok aYY aBB aMX aRR 160 e.1 e.2 := fun e he => a_okb_sound (mi := 160) aYY aBB aMX aRR pa_X11 ka_X11 kb_X11 k_arr rfl rfl rfl (fun h => by cases h) (List.all_eq_true.mp ob_Mo_isTerm e he)
set_option maxRecDepth 100000 in
theorem ob_Mo_terms : tb_Mo_terms.all (fun e => a_okb po_X11 kI_X11 kL_X11 cX11_terms 3 (some .int) false e.1 e.2) = true := by decide +kernel
theorem ok_Mo_terms : ∀ e ∈ tb_Mo_terms, a_ok aYY aBB aMX aRR 161 e.1 e.2 := fun e he => a_okb_sound (mi := 161) aYY aBB aMX aRR pa_X11 ka_X11 kb_X11 k_arr rfl rfl rfl (fun h => by cases h) (List.all_eq_true.mp ob_Mo_terms e he)
set_option maxRecDepth 100000 in
theorem ob_Mo_put : tb_Mo_put.all (fun e => a_okb po_X11 kI_X11 kL_X11 cX11_put 8 none false e.1 e.2) = true := by decide +kernel
theorem ok_Mo_put : ∀ e ∈ tb_Mo_put, a_ok aYY aBB aMX aRR 162 e.1 e.2 := fun e he => a_okb_sound (mi := 162) aYY aBB aMX aRR pa_X11 ka_X11 kb_X11 k_arr rfl rfl rfl (fun h => by cases h) (List.all_eq_true.mp ob_Mo_put e he)
set_option maxRecDepth 100000 in
theorem ob_Mo_on : tb_Mo_on.all (fun e => a_okb po_X11 kI_X11 kL_X11 cX11_on 6 (some .int) false e.1 e.2) = true := by decide +kernel
theorem ok_Mo_on : ∀ e ∈ tb_Mo_on, a_ok aYY aBB aMX aRR 163 e.1 e.2 := fun e he => a_okb_sound (mi := 163) aYY aBB aMX aRR pa_X11 ka_X11 kb_X11 k_arr rfl rfl rfl (fun h => by cases h) (List.all_eq_true.mp ob_Mo_on e he)
set_option maxRecDepth 100000 in
theorem ob_Mo_off : tb_Mo_off.all (fun e => a_okb po_X11 kI_X11 kL_X11 cX11_off 4 (some .int) false e.1 e.2) = true := by decide +kernel
theorem ok_Mo_off : ∀ e ∈ tb_Mo_off, a_ok aYY aBB aMX aRR 164 e.1 e.2 := fun e he => a_okb_sound (mi := 164) aYY aBB aMX aRR pa_X11 ka_X11 kb_X11 k_arr rfl rfl rfl (fun h => by cases h) (List.all_eq_true.mp ob_Mo_off e he)
set_option maxRecDepth 100000 in
theorem ob_Mo_of : tb_Mo_of.all (fun e => a_okb po_X11 kI_X11 kL_X11 cX11_of 4 (some .int) false e.1 e.2) = true := by decide +kernel
theorem ok_Mo_of : ∀ e ∈ tb_Mo_of, a_ok aYY aBB aMX aRR 165 e.1 e.2 := fun e he => a_okb_sound (mi := 165) aYY aBB aMX aRR pa_X11 ka_X11 kb_X11 k_arr rfl rfl rfl (fun h => by cases h) (List.all_eq_true.mp ob_Mo_of e he)
set_option maxRecDepth 100000 in
theorem ob_Mo_bits : tb_Mo_bits.all (fun e => a_okb po_X11 kI_X11 kL_X11 cX11_bits 3 (some .int) false e.1 e.2) = true := by decide +kernel
theorem ok_Mo_bits : ∀ e ∈ tb_Mo_bits, a_ok aYY aBB aMX aRR 166 e.1 e.2 := fun e he => a_okb_sound (mi := 166) aYY aBB aMX aRR pa_X11 ka_X11 kb_X11 k_arr rfl rfl rfl (fun h => by cases h) (List.all_eq_true.mp ob_Mo_bits e he)
set_option maxRecDepth 100000 in
theorem ob_Mo_row : tb_Mo_row.all (fun e => a_okb po_X11 kI_X11 kL_X11 cX11_row 7 (some .int) false e.1 e.2) = true := by decide +kernel
theorem ok_Mo_row : ∀ e ∈ tb_Mo_row, a_ok aYY aBB aMX aRR 167 e.1 e.2 := fun e he => a_okb_sound (mi := 167) aYY aBB aMX aRR pa_X11 ka_X11 kb_X11 k_arr rfl rfl rfl (fun h => by cases h) (List.all_eq_true.mp ob_Mo_row e he)
set_option maxRecDepth 100000 in
theorem ob_Mo_torn : tb_Mo_torn.all (fun e => a_okb po_X11 kI_X11 kL_X11 cX11_torn 1 (some .int) false e.1 e.2) = true := by decide +kernel
theorem ok_Mo_torn : ∀ e ∈ tb_Mo_torn, a_ok aYY aBB aMX aRR 168 e.1 e.2 := fun e he => a_okb_sound (mi := 168) aYY aBB aMX aRR pa_X11 ka_X11 kb_X11 k_arr rfl rfl rfl (fun h => by cases h) (List.all_eq_true.mp ob_Mo_torn e he)
set_option maxRecDepth 100000 in
theorem ob_Mo_outline : tb_Mo_outline.all (fun e => a_okb po_X11 kI_X11 kL_X11 cX11_outline 3 (some .int) false e.1 e.2) = true := by decide +kernel
theorem ok_Mo_outline : ∀ e ∈ tb_Mo_outline, a_ok aYY aBB aMX aRR 169 e.1 e.2 := fun e he => a_okb_sound (mi := 169) aYY aBB aMX aRR pa_X11 ka_X11 kb_X11 k_arr rfl rfl rfl (fun h => by cases h) (List.all_eq_true.mp ob_Mo_outline e he)
set_option maxRecDepth 100000 in
theorem ob_Mo_sheet : tb_Mo_sheet.all (fun e => a_okb po_X11 kI_X11 kL_X11 cX11_sheet 2 (some .int) false e.1 e.2) = true := by decide +kernel
theorem ok_Mo_sheet : ∀ e ∈ tb_Mo_sheet, a_ok aYY aBB aMX aRR 170 e.1 e.2 := fun e he => a_okb_sound (mi := 170) aYY aBB aMX aRR pa_X11 ka_X11 kb_X11 k_arr rfl rfl rfl (fun h => by cases h) (List.all_eq_true.mp ob_Mo_sheet e he)
set_option maxRecDepth 100000 in
theorem ob_Mo_four : tb_Mo_four.all (fun e => a_okb po_X11 kI_X11 kL_X11 cX11_four 3 none false e.1 e.2) = true := by decide +kernel
theorem ok_Mo_four : ∀ e ∈ tb_Mo_four, a_ok aYY aBB aMX aRR 171 e.1 e.2 := fun e he => a_okb_sound (mi := 171) aYY aBB aMX aRR pa_X11 ka_X11 kb_X11 k_arr rfl rfl rfl (fun h => by cases h) (List.all_eq_true.mp ob_Mo_four e he)
set_option maxRecDepth 100000 in
theorem ob_Mo_feed : tb_Mo_feed.all (fun e => a_okb po_X11 kI_X11 kL_X11 cX11_feed 6 (some .int) false e.1 e.2) = true := by decide +kernel
theorem ok_Mo_feed : ∀ e ∈ tb_Mo_feed, a_ok aYY aBB aMX aRR 172 e.1 e.2 := fun e he => a_okb_sound (mi := 172) aYY aBB aMX aRR pa_X11 ka_X11 kb_X11 k_arr rfl rfl rfl (fun h => by cases h) (List.all_eq_true.mp ob_Mo_feed e he)
set_option maxRecDepth 100000 in
theorem ob_Mo_end : tb_Mo_end.all (fun e => a_okb po_X11 kI_X11 kL_X11 cX11_end 2 (some .int) false e.1 e.2) = true := by decide +kernel
theorem ok_Mo_end : ∀ e ∈ tb_Mo_end, a_ok aYY aBB aMX aRR 173 e.1 e.2 := fun e he => a_okb_sound (mi := 173) aYY aBB aMX aRR pa_X11 ka_X11 kb_X11 k_arr rfl rfl rfl (fun h => by cases h) (List.all_eq_true.mp ob_Mo_end e he)
set_option maxRecDepth 100000 in
theorem ob_Mo_isSmall : tb_Mo_isSmall.all (fun e => a_okb po_X11 kI_X11 kL_X11 cX11_isSmall 1 (some .boolean) false e.1 e.2) = true := by decide +kernel
theorem ok_Mo_isSmall : ∀ e ∈ tb_Mo_isSmall, a_ok aYY aBB aMX aRR 174 e.1 e.2 := fun e he => a_okb_sound (mi := 174) aYY aBB aMX aRR pa_X11 ka_X11 kb_X11 k_arr rfl rfl rfl (fun h => by cases h) (List.all_eq_true.mp ob_Mo_isSmall e he)
set_option maxRecDepth 100000 in
theorem ob_Mo_isDigit : tb_Mo_isDigit.all (fun e => a_okb po_X11 kI_X11 kL_X11 cX11_isDigit 1 (some .boolean) false e.1 e.2) = true := by decide +kernel
theorem ok_Mo_isDigit : ∀ e ∈ tb_Mo_isDigit, a_ok aYY aBB aMX aRR 175 e.1 e.2 := fun e he => a_okb_sound (mi := 175) aYY aBB aMX aRR pa_X11 ka_X11 kb_X11 k_arr rfl rfl rfl (fun h => by cases h) (List.all_eq_true.mp ob_Mo_isDigit e he)
set_option maxRecDepth 100000 in
theorem ob_Mo_begin : tb_Mo_begin.all (fun e => a_okb po_X11 kI_X11 kL_X11 cX11_begin 1 none false e.1 e.2) = true := by decide +kernel
theorem ok_Mo_begin : ∀ e ∈ tb_Mo_begin, a_ok aYY aBB aMX aRR 176 e.1 e.2 := fun e he => a_okb_sound (mi := 176) aYY aBB aMX aRR pa_X11 ka_X11 kb_X11 k_arr rfl rfl rfl (fun h => by cases h) (List.all_eq_true.mp ob_Mo_begin e he)
set_option maxRecDepth 100000 in
theorem ob_Mo_next : tb_Mo_next.all (fun e => a_okb po_X11 kI_X11 kL_X11 cX11_next 1 none false e.1 e.2) = true := by decide +kernel
theorem ok_Mo_next : ∀ e ∈ tb_Mo_next, a_ok aYY aBB aMX aRR 177 e.1 e.2 := fun e he => a_okb_sound (mi := 177) aYY aBB aMX aRR pa_X11 ka_X11 kb_X11 k_arr rfl rfl rfl (fun h => by cases h) (List.all_eq_true.mp ob_Mo_next e he)
set_option maxRecDepth 100000 in
theorem ob_Mo_isWord : tb_Mo_isWord.all (fun e => a_okb po_X11 kI_X11 kL_X11 cX11_isWord 3 (some .boolean) false e.1 e.2) = true := by decide +kernel
theorem ok_Mo_isWord : ∀ e ∈ tb_Mo_isWord, a_ok aYY aBB aMX aRR 178 e.1 e.2 := fun e he => a_okb_sound (mi := 178) aYY aBB aMX aRR pa_X11 ka_X11 kb_X11 k_arr rfl rfl rfl (fun h => by cases h) (List.all_eq_true.mp ob_Mo_isWord e he)
set_option maxRecDepth 100000 in
theorem ob_Mo_isSign : tb_Mo_isSign.all (fun e => a_okb po_X11 kI_X11 kL_X11 cX11_isSign 2 (some .boolean) false e.1 e.2) = true := by decide +kernel
theorem ok_Mo_isSign : ∀ e ∈ tb_Mo_isSign, a_ok aYY aBB aMX aRR 179 e.1 e.2 := fun e he => a_okb_sound (mi := 179) aYY aBB aMX aRR pa_X11 ka_X11 kb_X11 k_arr rfl rfl rfl (fun h => by cases h) (List.all_eq_true.mp ob_Mo_isSign e he)
set_option maxRecDepth 100000 in
theorem ob_Mo_must : tb_Mo_must.all (fun e => a_okb po_X11 kI_X11 kL_X11 cX11_must 2 none false e.1 e.2) = true := by decide +kernel
theorem ok_Mo_must : ∀ e ∈ tb_Mo_must, a_ok aYY aBB aMX aRR 180 e.1 e.2 := fun e he => a_okb_sound (mi := 180) aYY aBB aMX aRR pa_X11 ka_X11 kb_X11 k_arr rfl rfl rfl (fun h => by cases h) (List.all_eq_true.mp ob_Mo_must e he)
set_option maxRecDepth 100000 in
theorem ob_Mo_number : tb_Mo_number.all (fun e => a_okb po_X11 kI_X11 kL_X11 cX11_number 6 (some .int) false e.1 e.2) = true := by decide +kernel
theorem ok_Mo_number : ∀ e ∈ tb_Mo_number, a_ok aYY aBB aMX aRR 181 e.1 e.2 := fun e he => a_okb_sound (mi := 181) aYY aBB aMX aRR pa_X11 ka_X11 kb_X11 k_arr rfl rfl rfl (fun h => by cases h) (List.all_eq_true.mp ob_Mo_number e he)
set_option maxRecDepth 100000 in
theorem ob_Mo_fault : tb_Mo_fault.all (fun e => a_okb po_X11 kI_X11 kL_X11 cX11_fault 1 (some .int) false e.1 e.2) = true := by decide +kernel
theorem ok_Mo_fault : ∀ e ∈ tb_Mo_fault, a_ok aYY aBB aMX aRR 182 e.1 e.2 := fun e he => a_okb_sound (mi := 182) aYY aBB aMX aRR pa_X11 ka_X11 kb_X11 k_arr rfl rfl rfl (fun h => by cases h) (List.all_eq_true.mp ob_Mo_fault e he)
set_option maxRecDepth 100000 in
theorem ob_Mo_emit : tb_Mo_emit.all (fun e => a_okb po_X11 kI_X11 kL_X11 cX11_emit 3 none false e.1 e.2) = true := by decide +kernel
theorem ok_Mo_emit : ∀ e ∈ tb_Mo_emit, a_ok aYY aBB aMX aRR 183 e.1 e.2 := fun e he => a_okb_sound (mi := 183) aYY aBB aMX aRR pa_X11 ka_X11 kb_X11 k_arr rfl rfl rfl (fun h => by cases h) (List.all_eq_true.mp ob_Mo_emit e he)
set_option maxRecDepth 100000 in
theorem ob_Mo_push : tb_Mo_push.all (fun e => a_okb po_X11 kI_X11 kL_X11 cX11_push 3 none false e.1 e.2) = true := by decide +kernel
theorem ok_Mo_push : ∀ e ∈ tb_Mo_push, a_ok aYY aBB aMX aRR 184 e.1 e.2 := fun e he => a_okb_sound (mi := 184) aYY aBB aMX aRR pa_X11 ka_X11 kb_X11 k_arr rfl rfl rfl (fun h => by cases h) (List.all_eq_true.mp ob_Mo_push e he)
set_option maxRecDepth 100000 in
theorem ob_Mo_binds : tb_Mo_binds.all (fun e => a_okb po_X11 kI_X11 kL_X11 cX11_binds 1 (some .int) false e.1 e.2) = true := by decide +kernel
theorem ok_Mo_binds : ∀ e ∈ tb_Mo_binds, a_ok aYY aBB aMX aRR 185 e.1 e.2 := fun e he => a_okb_sound (mi := 185) aYY aBB aMX aRR pa_X11 ka_X11 kb_X11 k_arr rfl rfl rfl (fun h => by cases h) (List.all_eq_true.mp ob_Mo_binds e he)
set_option maxRecDepth 100000 in
theorem ob_Mo_settle : tb_Mo_settle.all (fun e => a_okb po_X11 kI_X11 kL_X11 cX11_settle 2 none false e.1 e.2) = true := by decide +kernel
theorem ok_Mo_settle : ∀ e ∈ tb_Mo_settle, a_ok aYY aBB aMX aRR 186 e.1 e.2 := fun e he => a_okb_sound (mi := 186) aYY aBB aMX aRR pa_X11 ka_X11 kb_X11 k_arr rfl rfl rfl (fun h => by cases h) (List.all_eq_true.mp ob_Mo_settle e he)
set_option maxRecDepth 100000 in
theorem ob_Mo_inner : tb_Mo_inner.all (fun e => a_okb po_X11 kI_X11 kL_X11 cX11_inner 3 (some .int) false e.1 e.2) = true := by decide +kernel
theorem ok_Mo_inner : ∀ e ∈ tb_Mo_inner, a_ok aYY aBB aMX aRR 187 e.1 e.2 := fun e he => a_okb_sound (mi := 187) aYY aBB aMX aRR pa_X11 ka_X11 kb_X11 k_arr rfl rfl rfl (fun h => by cases h) (List.all_eq_true.mp ob_Mo_inner e he)
set_option maxRecDepth 100000 in
theorem ob_Mo_isCompared : tb_Mo_isCompared.all (fun e => a_okb po_X11 kI_X11 kL_X11 cX11_isCompared 2 (some .boolean) false e.1 e.2) = true := by decide +kernel
theorem ok_Mo_isCompared : ∀ e ∈ tb_Mo_isCompared, a_ok aYY aBB aMX aRR 188 e.1 e.2 := fun e he => a_okb_sound (mi := 188) aYY aBB aMX aRR pa_X11 ka_X11 kb_X11 k_arr rfl rfl rfl (fun h => by cases h) (List.all_eq_true.mp ob_Mo_isCompared e he)
set_option maxRecDepth 100000 in
theorem ob_Mo_partAt : tb_Mo_partAt.all (fun e => a_okb po_X11 kI_X11 kL_X11 cX11_partAt 3 (some .int) false e.1 e.2) = true := by decide +kernel
theorem ok_Mo_partAt : ∀ e ∈ tb_Mo_partAt, a_ok aYY aBB aMX aRR 189 e.1 e.2 := fun e he => a_okb_sound (mi := 189) aYY aBB aMX aRR pa_X11 ka_X11 kb_X11 k_arr rfl rfl rfl (fun h => by cases h) (List.all_eq_true.mp ob_Mo_partAt e he)
set_option maxRecDepth 100000 in
theorem ob_Mo_openBracket : tb_Mo_openBracket.all (fun e => a_okb po_X11 kI_X11 kL_X11 cX11_openBracket 2 none false e.1 e.2) = true := by decide +kernel
theorem ok_Mo_openBracket : ∀ e ∈ tb_Mo_openBracket, a_ok aYY aBB aMX aRR 190 e.1 e.2 := fun e he => a_okb_sound (mi := 190) aYY aBB aMX aRR pa_X11 ka_X11 kb_X11 k_arr rfl rfl rfl (fun h => by cases h) (List.all_eq_true.mp ob_Mo_openBracket e he)
set_option maxRecDepth 100000 in
theorem ob_Mo_leaf : tb_Mo_leaf.all (fun e => a_okb po_X11 kI_X11 kL_X11 cX11_leaf 4 none false e.1 e.2) = true := by decide +kernel
theorem ok_Mo_leaf : ∀ e ∈ tb_Mo_leaf, a_ok aYY aBB aMX aRR 191 e.1 e.2 := fun e he => a_okb_sound (mi := 191) aYY aBB aMX aRR pa_X11 ka_X11 kb_X11 k_arr rfl rfl rfl (fun h => by cases h) (List.all_eq_true.mp ob_Mo_leaf e he)
set_option maxRecDepth 100000 in
theorem ob_Mo_readPart : tb_Mo_readPart.all (fun e => a_okb po_X11 kI_X11 kL_X11 cX11_readPart 3 (some .int) false e.1 e.2) = true := by decide +kernel
theorem ok_Mo_readPart : ∀ e ∈ tb_Mo_readPart, a_ok aYY aBB aMX aRR 192 e.1 e.2 := fun e he => a_okb_sound (mi := 192) aYY aBB aMX aRR pa_X11 ka_X11 kb_X11 k_arr rfl rfl rfl (fun h => by cases h) (List.all_eq_true.mp ob_Mo_readPart e he)
set_option maxRecDepth 100000 in
theorem ob_Mo_readPlain : tb_Mo_readPlain.all (fun e => a_okb po_X11 kI_X11 kL_X11 cX11_readPlain 1 (some .int) false e.1 e.2) = true := by decide +kernel
theorem ok_Mo_readPlain : ∀ e ∈ tb_Mo_readPlain, a_ok aYY aBB aMX aRR 193 e.1 e.2 := fun e he => a_okb_sound (mi := 193) aYY aBB aMX aRR pa_X11 ka_X11 kb_X11 k_arr rfl rfl rfl (fun h => by cases h) (List.all_eq_true.mp ob_Mo_readPlain e he)
set_option maxRecDepth 100000 in
theorem ob_Mo_behindSum : tb_Mo_behindSum.all (fun e => a_okb po_X11 kI_X11 kL_X11 cX11_behindSum 4 (some .int) false e.1 e.2) = true := by decide +kernel
theorem ok_Mo_behindSum : ∀ e ∈ tb_Mo_behindSum, a_ok aYY aBB aMX aRR 194 e.1 e.2 := fun e he => a_okb_sound (mi := 194) aYY aBB aMX aRR pa_X11 ka_X11 kb_X11 k_arr rfl rfl rfl (fun h => by cases h) (List.all_eq_true.mp ob_Mo_behindSum e he)
set_option maxRecDepth 100000 in
theorem ob_Mo_behindTest : tb_Mo_behindTest.all (fun e => a_okb po_X11 kI_X11 kL_X11 cX11_behindTest 2 (some .int) false e.1 e.2) = true := by decide +kernel
theorem ok_Mo_behindTest : ∀ e ∈ tb_Mo_behindTest, a_ok aYY aBB aMX aRR 195 e.1 e.2 := fun e he => a_okb_sound (mi := 195) aYY aBB aMX aRR pa_X11 ka_X11 kb_X11 k_arr rfl rfl rfl (fun h => by cases h) (List.all_eq_true.mp ob_Mo_behindTest e he)
set_option maxRecDepth 100000 in
theorem ob_Mo_readExpression : tb_Mo_readExpression.all (fun e => a_okb po_X11 kI_X11 kL_X11 cX11_readExpression 3 none false e.1 e.2) = true := by decide +kernel
theorem ok_Mo_readExpression : ∀ e ∈ tb_Mo_readExpression, a_ok aYY aBB aMX aRR 196 e.1 e.2 := fun e he => a_okb_sound (mi := 196) aYY aBB aMX aRR pa_X11 ka_X11 kb_X11 k_arr rfl rfl rfl (fun h => by cases h) (List.all_eq_true.mp ob_Mo_readExpression e he)
set_option maxRecDepth 100000 in
theorem ob_Mo_readBeat : tb_Mo_readBeat.all (fun e => a_okb po_X11 kI_X11 kL_X11 cX11_readBeat 9 none false e.1 e.2) = true := by decide +kernel
theorem ok_Mo_readBeat : ∀ e ∈ tb_Mo_readBeat, a_ok aYY aBB aMX aRR 197 e.1 e.2 := fun e he => a_okb_sound (mi := 197) aYY aBB aMX aRR pa_X11 ka_X11 kb_X11 k_arr rfl rfl rfl (fun h => by cases h) (List.all_eq_true.mp ob_Mo_readBeat e he)
set_option maxRecDepth 100000 in
theorem ob_Mo_readClause : tb_Mo_readClause.all (fun e => a_okb po_X11 kI_X11 kL_X11 cX11_readClause 5 none false e.1 e.2) = true := by decide +kernel
theorem ok_Mo_readClause : ∀ e ∈ tb_Mo_readClause, a_ok aYY aBB aMX aRR 198 e.1 e.2 := fun e he => a_okb_sound (mi := 198) aYY aBB aMX aRR pa_X11 ka_X11 kb_X11 k_arr rfl rfl rfl (fun h => by cases h) (List.all_eq_true.mp ob_Mo_readClause e he)
set_option maxRecDepth 100000 in
theorem ob_Mo_play : tb_Mo_play.all (fun e => a_okb po_X11 kI_X11 kL_X11 cX11_play 3 (some .int) false e.1 e.2) = true := by decide +kernel
theorem ok_Mo_play : ∀ e ∈ tb_Mo_play, a_ok aYY aBB aMX aRR 199 e.1 e.2 := fun e he => a_okb_sound (mi := 199) aYY aBB aMX aRR pa_X11 ka_X11 kb_X11 k_arr rfl rfl rfl (fun h => by cases h) (List.all_eq_true.mp ob_Mo_play e he)
set_option maxRecDepth 100000 in
theorem ob_Mo_reckon : tb_Mo_reckon.all (fun e => a_okb po_X11 kI_X11 kL_X11 cX11_reckon 6 (some .long) false e.1 e.2) = true := by decide +kernel
theorem ok_Mo_reckon : ∀ e ∈ tb_Mo_reckon, a_ok aYY aBB aMX aRR 200 e.1 e.2 := fun e he => a_okb_sound (mi := 200) aYY aBB aMX aRR pa_X11 ka_X11 kb_X11 k_arr rfl rfl rfl (fun h => by cases h) (List.all_eq_true.mp ob_Mo_reckon e he)
set_option maxRecDepth 100000 in
theorem ob_Mo_reckonAll : tb_Mo_reckonAll.all (fun e => a_okb po_X11 kI_X11 kL_X11 cX11_reckonAll 7 none false e.1 e.2) = true := by decide +kernel
theorem ok_Mo_reckonAll : ∀ e ∈ tb_Mo_reckonAll, a_ok aYY aBB aMX aRR 201 e.1 e.2 := fun e he => a_okb_sound (mi := 201) aYY aBB aMX aRR pa_X11 ka_X11 kb_X11 k_arr rfl rfl rfl (fun h => by cases h) (List.all_eq_true.mp ob_Mo_reckonAll e he)
set_option maxRecDepth 100000 in
theorem ob_Mo_isSo : tb_Mo_isSo.all (fun e => a_okb po_X11 kI_X11 kL_X11 cX11_isSo 2 (some .boolean) false e.1 e.2) = true := by decide +kernel
theorem ok_Mo_isSo : ∀ e ∈ tb_Mo_isSo, a_ok aYY aBB aMX aRR 202 e.1 e.2 := fun e he => a_okb_sound (mi := 202) aYY aBB aMX aRR pa_X11 ka_X11 kb_X11 k_arr rfl rfl rfl (fun h => by cases h) (List.all_eq_true.mp ob_Mo_isSo e he)
set_option maxRecDepth 100000 in
theorem ob_Mo_tells : tb_Mo_tells.all (fun e => a_okb po_X11 kI_X11 kL_X11 cX11_tells 12 (some .int) false e.1 e.2) = true := by decide +kernel
theorem ok_Mo_tells : ∀ e ∈ tb_Mo_tells, a_ok aYY aBB aMX aRR 203 e.1 e.2 := fun e he => a_okb_sound (mi := 203) aYY aBB aMX aRR pa_X11 ka_X11 kb_X11 k_arr rfl rfl rfl (fun h => by cases h) (List.all_eq_true.mp ob_Mo_tells e he)
set_option maxRecDepth 100000 in
theorem ob_Mo_shadowRow : tb_Mo_shadowRow.all (fun e => a_okb po_X11 kI_X11 kL_X11 cX11_shadowRow 9 (some .int) false e.1 e.2) = true := by decide +kernel
theorem ok_Mo_shadowRow : ∀ e ∈ tb_Mo_shadowRow, a_ok aYY aBB aMX aRR 204 e.1 e.2 := fun e he => a_okb_sound (mi := 204) aYY aBB aMX aRR pa_X11 ka_X11 kb_X11 k_arr rfl rfl rfl (fun h => by cases h) (List.all_eq_true.mp ob_Mo_shadowRow e he)
set_option maxRecDepth 100000 in
theorem ob_Mo_allRow : tb_Mo_allRow.all (fun e => a_okb po_X11 kI_X11 kL_X11 cX11_allRow 5 (some .int) false e.1 e.2) = true := by decide +kernel
theorem ok_Mo_allRow : ∀ e ∈ tb_Mo_allRow, a_ok aYY aBB aMX aRR 205 e.1 e.2 := fun e he => a_okb_sound (mi := 205) aYY aBB aMX aRR pa_X11 ka_X11 kb_X11 k_arr rfl rfl rfl (fun h => by cases h) (List.all_eq_true.mp ob_Mo_allRow e he)
set_option maxRecDepth 100000 in
theorem ob_Mo_shadow : tb_Mo_shadow.all (fun e => a_okb po_X11 kI_X11 kL_X11 cX11_shadow 4 (some .int) false e.1 e.2) = true := by decide +kernel
theorem ok_Mo_shadow : ∀ e ∈ tb_Mo_shadow, a_ok aYY aBB aMX aRR 206 e.1 e.2 := fun e he => a_okb_sound (mi := 206) aYY aBB aMX aRR pa_X11 ka_X11 kb_X11 k_arr rfl rfl rfl (fun h => by cases h) (List.all_eq_true.mp ob_Mo_shadow e he)
set_option maxRecDepth 100000 in
theorem ob_Mo_seen : tb_Mo_seen.all (fun e => a_okb po_X11 kI_X11 kL_X11 cX11_seen 10 (some .int) false e.1 e.2) = true := by decide +kernel
theorem ok_Mo_seen : ∀ e ∈ tb_Mo_seen, a_ok aYY aBB aMX aRR 207 e.1 e.2 := fun e he => a_okb_sound (mi := 207) aYY aBB aMX aRR pa_X11 ka_X11 kb_X11 k_arr rfl rfl rfl (fun h => by cases h) (List.all_eq_true.mp ob_Mo_seen e he)
set_option maxRecDepth 100000 in
theorem ob_Mo_common : tb_Mo_common.all (fun e => a_okb po_X11 kI_X11 kL_X11 cX11_common 6 (some .int) false e.1 e.2) = true := by decide +kernel
theorem ok_Mo_common : ∀ e ∈ tb_Mo_common, a_ok aYY aBB aMX aRR 208 e.1 e.2 := fun e he => a_okb_sound (mi := 208) aYY aBB aMX aRR pa_X11 ka_X11 kb_X11 k_arr rfl rfl rfl (fun h => by cases h) (List.all_eq_true.mp ob_Mo_common e he)
set_option maxRecDepth 100000 in
theorem ob_Mo_copy : tb_Mo_copy.all (fun e => a_okb po_X11 kI_X11 kL_X11 cX11_copy 4 (some .int) false e.1 e.2) = true := by decide +kernel
theorem ok_Mo_copy : ∀ e ∈ tb_Mo_copy, a_ok aYY aBB aMX aRR 209 e.1 e.2 := fun e he => a_okb_sound (mi := 209) aYY aBB aMX aRR pa_X11 ka_X11 kb_X11 k_arr rfl rfl rfl (fun h => by cases h) (List.all_eq_true.mp ob_Mo_copy e he)
set_option maxRecDepth 100000 in
theorem ob_Mo_canHold : tb_Mo_canHold.all (fun e => a_okb po_X11 kI_X11 kL_X11 cX11_canHold 8 (some .boolean) false e.1 e.2) = true := by decide +kernel
theorem ok_Mo_canHold : ∀ e ∈ tb_Mo_canHold, a_ok aYY aBB aMX aRR 210 e.1 e.2 := fun e he => a_okb_sound (mi := 210) aYY aBB aMX aRR pa_X11 ka_X11 kb_X11 k_arr rfl rfl rfl (fun h => by cases h) (List.all_eq_true.mp ob_Mo_canHold e he)
set_option maxRecDepth 100000 in
theorem ob_Mo_isNear : tb_Mo_isNear.all (fun e => a_okb po_X11 kI_X11 kL_X11 cX11_isNear 6 (some .boolean) false e.1 e.2) = true := by decide +kernel
theorem ok_Mo_isNear : ∀ e ∈ tb_Mo_isNear, a_ok aYY aBB aMX aRR 211 e.1 e.2 := fun e he => a_okb_sound (mi := 211) aYY aBB aMX aRR pa_X11 ka_X11 kb_X11 k_arr rfl rfl rfl (fun h => by cases h) (List.all_eq_true.mp ob_Mo_isNear e he)
set_option maxRecDepth 100000 in
theorem ob_Mo_isStill : tb_Mo_isStill.all (fun e => a_okb po_X11 kI_X11 kL_X11 cX11_isStill 5 (some .boolean) false e.1 e.2) = true := by decide +kernel
theorem ok_Mo_isStill : ∀ e ∈ tb_Mo_isStill, a_ok aYY aBB aMX aRR 212 e.1 e.2 := fun e he => a_okb_sound (mi := 212) aYY aBB aMX aRR pa_X11 ka_X11 kb_X11 k_arr rfl rfl rfl (fun h => by cases h) (List.all_eq_true.mp ob_Mo_isStill e he)
set_option maxRecDepth 100000 in
theorem ob_Mo_onBits : tb_Mo_onBits.all (fun e => a_okb po_X11 kI_X11 kL_X11 cX11_onBits 4 (some .int) false e.1 e.2) = true := by decide +kernel
theorem ok_Mo_onBits : ∀ e ∈ tb_Mo_onBits, a_ok aYY aBB aMX aRR 213 e.1 e.2 := fun e he => a_okb_sound (mi := 213) aYY aBB aMX aRR pa_X11 ka_X11 kb_X11 k_arr rfl rfl rfl (fun h => by cases h) (List.all_eq_true.mp ob_Mo_onBits e he)
set_option maxRecDepth 100000 in
theorem ob_Mo_holds : tb_Mo_holds.all (fun e => a_okb po_X11 kI_X11 kL_X11 cX11_holds 4 (some .int) false e.1 e.2) = true := by decide +kernel
theorem ok_Mo_holds : ∀ e ∈ tb_Mo_holds, a_ok aYY aBB aMX aRR 214 e.1 e.2 := fun e he => a_okb_sound (mi := 214) aYY aBB aMX aRR pa_X11 ka_X11 kb_X11 k_arr rfl rfl rfl (fun h => by cases h) (List.all_eq_true.mp ob_Mo_holds e he)
set_option maxRecDepth 100000 in
theorem ob_Mo_findCan : tb_Mo_findCan.all (fun e => a_okb po_X11 kI_X11 kL_X11 cX11_findCan 5 none false e.1 e.2) = true := by decide +kernel
theorem ok_Mo_findCan : ∀ e ∈ tb_Mo_findCan, a_ok aYY aBB aMX aRR 215 e.1 e.2 := fun e he => a_okb_sound (mi := 215) aYY aBB aMX aRR pa_X11 ka_X11 kb_X11 k_arr rfl rfl rfl (fun h => by cases h) (List.all_eq_true.mp ob_Mo_findCan e he)
set_option maxRecDepth 100000 in
theorem ob_Mo_holderIn : tb_Mo_holderIn.all (fun e => a_okb po_X11 kI_X11 kL_X11 cX11_holderIn 2 (some .int) false e.1 e.2) = true := by decide +kernel
theorem ok_Mo_holderIn : ∀ e ∈ tb_Mo_holderIn, a_ok aYY aBB aMX aRR 216 e.1 e.2 := fun e he => a_okb_sound (mi := 216) aYY aBB aMX aRR pa_X11 ka_X11 kb_X11 k_arr rfl rfl rfl (fun h => by cases h) (List.all_eq_true.mp ob_Mo_holderIn e he)
set_option maxRecDepth 100000 in
theorem ob_Mo_isHolding : tb_Mo_isHolding.all (fun e => a_okb po_X11 kI_X11 kL_X11 cX11_isHolding 10 (some .boolean) false e.1 e.2) = true := by decide +kernel
theorem ok_Mo_isHolding : ∀ e ∈ tb_Mo_isHolding, a_ok aYY aBB aMX aRR 217 e.1 e.2 := fun e he => a_okb_sound (mi := 217) aYY aBB aMX aRR pa_X11 ka_X11 kb_X11 k_arr rfl rfl rfl (fun h => by cases h) (List.all_eq_true.mp ob_Mo_isHolding e he)
set_option maxRecDepth 100000 in
theorem ob_Mo_holdingsOf : tb_Mo_holdingsOf.all (fun e => a_okb po_X11 kI_X11 kL_X11 cX11_holdingsOf 6 (some .int) false e.1 e.2) = true := by decide +kernel
theorem ok_Mo_holdingsOf : ∀ e ∈ tb_Mo_holdingsOf, a_ok aYY aBB aMX aRR 218 e.1 e.2 := fun e he => a_okb_sound (mi := 218) aYY aBB aMX aRR pa_X11 ka_X11 kb_X11 k_arr rfl rfl rfl (fun h => by cases h) (List.all_eq_true.mp ob_Mo_holdingsOf e he)
set_option maxRecDepth 100000 in
theorem ob_Mo_holdings : tb_Mo_holdings.all (fun e => a_okb po_X11 kI_X11 kL_X11 cX11_holdings 2 (some .int) false e.1 e.2) = true := by decide +kernel
theorem ok_Mo_holdings : ∀ e ∈ tb_Mo_holdings, a_ok aYY aBB aMX aRR 219 e.1 e.2 := fun e he => a_okb_sound (mi := 219) aYY aBB aMX aRR pa_X11 ka_X11 kb_X11 k_arr rfl rfl rfl (fun h => by cases h) (List.all_eq_true.mp ob_Mo_holdings e he)
set_option maxRecDepth 100000 in
theorem ob_Mo_findLeast : tb_Mo_findLeast.all (fun e => a_okb po_X11 kI_X11 kL_X11 cX11_findLeast 4 none false e.1 e.2) = true := by decide +kernel
theorem ok_Mo_findLeast : ∀ e ∈ tb_Mo_findLeast, a_ok aYY aBB aMX aRR 220 e.1 e.2 := fun e he => a_okb_sound (mi := 220) aYY aBB aMX aRR pa_X11 ka_X11 kb_X11 k_arr rfl rfl rfl (fun h => by cases h) (List.all_eq_true.mp ob_Mo_findLeast e he)
set_option maxRecDepth 100000 in
theorem ob_Mo_reckonBeat : tb_Mo_reckonBeat.all (fun e => a_okb po_X11 kI_X11 kL_X11 cX11_reckonBeat 5 none false e.1 e.2) = true := by decide +kernel
theorem ok_Mo_reckonBeat : ∀ e ∈ tb_Mo_reckonBeat, a_ok aYY aBB aMX aRR 221 e.1 e.2 := fun e he => a_okb_sound (mi := 221) aYY aBB aMX aRR pa_X11 ka_X11 kb_X11 k_arr rfl rfl rfl (fun h => by cases h) (List.all_eq_true.mp ob_Mo_reckonBeat e he)
set_option maxRecDepth 100000 in
theorem ob_Mo_backFigure : tb_Mo_backFigure.all (fun e => a_okb po_X11 kI_X11 kL_X11 cX11_backFigure 14 none false e.1 e.2) = true := by decide +kernel
theorem ok_Mo_backFigure : ∀ e ∈ tb_Mo_backFigure, a_ok aYY aBB aMX aRR 222 e.1 e.2 := fun e he => a_okb_sound (mi := 222) aYY aBB aMX aRR pa_X11 ka_X11 kb_X11 k_arr rfl rfl rfl (fun h => by cases h) (List.all_eq_true.mp ob_Mo_backFigure e he)
set_option maxRecDepth 100000 in
theorem ob_Mo_passedBetween : tb_Mo_passedBetween.all (fun e => a_okb po_X11 kI_X11 kL_X11 cX11_passedBetween 8 (some .int) false e.1 e.2) = true := by decide +kernel
theorem ok_Mo_passedBetween : ∀ e ∈ tb_Mo_passedBetween, a_ok aYY aBB aMX aRR 223 e.1 e.2 := fun e he => a_okb_sound (mi := 223) aYY aBB aMX aRR pa_X11 ka_X11 kb_X11 k_arr rfl rfl rfl (fun h => by cases h) (List.all_eq_true.mp ob_Mo_passedBetween e he)
set_option maxRecDepth 100000 in
theorem ob_Mo_findFirst : tb_Mo_findFirst.all (fun e => a_okb po_X11 kI_X11 kL_X11 cX11_findFirst 6 none false e.1 e.2) = true := by decide +kernel
theorem ok_Mo_findFirst : ∀ e ∈ tb_Mo_findFirst, a_ok aYY aBB aMX aRR 224 e.1 e.2 := fun e he => a_okb_sound (mi := 224) aYY aBB aMX aRR pa_X11 ka_X11 kb_X11 k_arr rfl rfl rfl (fun h => by cases h) (List.all_eq_true.mp ob_Mo_findFirst e he)
set_option maxRecDepth 100000 in
theorem ob_Mo_least : tb_Mo_least.all (fun e => a_okb po_X11 kI_X11 kL_X11 cX11_least 2 (some .int) false e.1 e.2) = true := by decide +kernel
theorem ok_Mo_least : ∀ e ∈ tb_Mo_least, a_ok aYY aBB aMX aRR 225 e.1 e.2 := fun e he => a_okb_sound (mi := 225) aYY aBB aMX aRR pa_X11 ka_X11 kb_X11 k_arr rfl rfl rfl (fun h => by cases h) (List.all_eq_true.mp ob_Mo_least e he)
set_option maxRecDepth 100000 in
theorem ob_Mo_holder : tb_Mo_holder.all (fun e => a_okb po_X11 kI_X11 kL_X11 cX11_holder 3 (some .int) false e.1 e.2) = true := by decide +kernel
theorem ok_Mo_holder : ∀ e ∈ tb_Mo_holder, a_ok aYY aBB aMX aRR 226 e.1 e.2 := fun e he => a_okb_sound (mi := 226) aYY aBB aMX aRR pa_X11 ka_X11 kb_X11 k_arr rfl rfl rfl (fun h => by cases h) (List.all_eq_true.mp ob_Mo_holder e he)
set_option maxRecDepth 100000 in
theorem ob_Mo_passed : tb_Mo_passed.all (fun e => a_okb po_X11 kI_X11 kL_X11 cX11_passed 4 (some .int) false e.1 e.2) = true := by decide +kernel
theorem ok_Mo_passed : ∀ e ∈ tb_Mo_passed, a_ok aYY aBB aMX aRR 227 e.1 e.2 := fun e he => a_okb_sound (mi := 227) aYY aBB aMX aRR pa_X11 ka_X11 kb_X11 k_arr rfl rfl rfl (fun h => by cases h) (List.all_eq_true.mp ob_Mo_passed e he)
set_option maxRecDepth 100000 in
theorem ob_Mo_fewest : tb_Mo_fewest.all (fun e => a_okb po_X11 kI_X11 kL_X11 cX11_fewest 4 (some .int) false e.1 e.2) = true := by decide +kernel
theorem ok_Mo_fewest : ∀ e ∈ tb_Mo_fewest, a_ok aYY aBB aMX aRR 228 e.1 e.2 := fun e he => a_okb_sound (mi := 228) aYY aBB aMX aRR pa_X11 ka_X11 kb_X11 k_arr rfl rfl rfl (fun h => by cases h) (List.all_eq_true.mp ob_Mo_fewest e he)
set_option maxRecDepth 100000 in
theorem ob_Mo_barred : tb_Mo_barred.all (fun e => a_okb po_X11 kI_X11 kL_X11 cX11_barred 5 (some .int) false e.1 e.2) = true := by decide +kernel
theorem ok_Mo_barred : ∀ e ∈ tb_Mo_barred, a_ok aYY aBB aMX aRR 229 e.1 e.2 := fun e he => a_okb_sound (mi := 229) aYY aBB aMX aRR pa_X11 ka_X11 kb_X11 k_arr rfl rfl rfl (fun h => by cases h) (List.all_eq_true.mp ob_Mo_barred e he)
set_option maxRecDepth 100000 in
theorem ob_Mo_findCells : tb_Mo_findCells.all (fun e => a_okb po_X11 kI_X11 kL_X11 cX11_findCells 3 (some .boolean) false e.1 e.2) = true := by decide +kernel
theorem ok_Mo_findCells : ∀ e ∈ tb_Mo_findCells, a_ok aYY aBB aMX aRR 230 e.1 e.2 := fun e he => a_okb_sound (mi := 230) aYY aBB aMX aRR pa_X11 ka_X11 kb_X11 k_arr rfl rfl rfl (fun h => by cases h) (List.all_eq_true.mp ob_Mo_findCells e he)
set_option maxRecDepth 100000 in
theorem ob_Mo_findShadows : tb_Mo_findShadows.all (fun e => a_okb po_X11 kI_X11 kL_X11 cX11_findShadows 6 none false e.1 e.2) = true := by decide +kernel
theorem ok_Mo_findShadows : ∀ e ∈ tb_Mo_findShadows, a_ok aYY aBB aMX aRR 231 e.1 e.2 := fun e he => a_okb_sound (mi := 231) aYY aBB aMX aRR pa_X11 ka_X11 kb_X11 k_arr rfl rfl rfl (fun h => by cases h) (List.all_eq_true.mp ob_Mo_findShadows e he)
set_option maxRecDepth 100000 in
theorem ob_Mo_tryPlace : tb_Mo_tryPlace.all (fun e => a_okb po_X11 kI_X11 kL_X11 cX11_tryPlace 11 none false e.1 e.2) = true := by decide +kernel
theorem ok_Mo_tryPlace : ∀ e ∈ tb_Mo_tryPlace, a_ok aYY aBB aMX aRR 232 e.1 e.2 := fun e he => a_okb_sound (mi := 232) aYY aBB aMX aRR pa_X11 ka_X11 kb_X11 k_arr rfl rfl rfl (fun h => by cases h) (List.all_eq_true.mp ob_Mo_tryPlace e he)
set_option maxRecDepth 100000 in
theorem ob_Mo_findMade : tb_Mo_findMade.all (fun e => a_okb po_X11 kI_X11 kL_X11 cX11_findMade 4 none false e.1 e.2) = true := by decide +kernel
theorem ok_Mo_findMade : ∀ e ∈ tb_Mo_findMade, a_ok aYY aBB aMX aRR 233 e.1 e.2 := fun e he => a_okb_sound (mi := 233) aYY aBB aMX aRR pa_X11 ka_X11 kb_X11 k_arr rfl rfl rfl (fun h => by cases h) (List.all_eq_true.mp ob_Mo_findMade e he)
set_option maxRecDepth 100000 in
theorem ob_Mo_maskAt : tb_Mo_maskAt.all (fun e => a_okb po_X11 kI_X11 kL_X11 cX11_maskAt 3 (some .long) false e.1 e.2) = true := by decide +kernel
theorem ok_Mo_maskAt : ∀ e ∈ tb_Mo_maskAt, a_ok aYY aBB aMX aRR 234 e.1 e.2 := fun e he => a_okb_sound (mi := 234) aYY aBB aMX aRR pa_X11 ka_X11 kb_X11 k_arr rfl rfl rfl (fun h => by cases h) (List.all_eq_true.mp ob_Mo_maskAt e he)
set_option maxRecDepth 100000 in
theorem ob_Mo_goOver : tb_Mo_goOver.all (fun e => a_okb po_X11 kI_X11 kL_X11 cX11_goOver 19 none false e.1 e.2) = true := by decide +kernel
theorem ok_Mo_goOver : ∀ e ∈ tb_Mo_goOver, a_ok aYY aBB aMX aRR 235 e.1 e.2 := fun e he => a_okb_sound (mi := 235) aYY aBB aMX aRR pa_X11 ka_X11 kb_X11 k_arr rfl rfl rfl (fun h => by cases h) (List.all_eq_true.mp ob_Mo_goOver e he)
set_option maxRecDepth 100000 in
theorem ob_Mo_take : tb_Mo_take.all (fun e => a_okb po_X11 kI_X11 kL_X11 cX11_take 6 none false e.1 e.2) = true := by decide +kernel
theorem ok_Mo_take : ∀ e ∈ tb_Mo_take, a_ok aYY aBB aMX aRR 236 e.1 e.2 := fun e he => a_okb_sound (mi := 236) aYY aBB aMX aRR pa_X11 ka_X11 kb_X11 k_arr rfl rfl rfl (fun h => by cases h) (List.all_eq_true.mp ob_Mo_take e he)
set_option maxRecDepth 100000 in
theorem ob_Mo_isCast : tb_Mo_isCast.all (fun e => a_okb po_X11 kI_X11 kL_X11 cX11_isCast 2 (some .boolean) false e.1 e.2) = true := by decide +kernel
theorem ok_Mo_isCast : ∀ e ∈ tb_Mo_isCast, a_ok aYY aBB aMX aRR 237 e.1 e.2 := fun e he => a_okb_sound (mi := 237) aYY aBB aMX aRR pa_X11 ka_X11 kb_X11 k_arr rfl rfl rfl (fun h => by cases h) (List.all_eq_true.mp ob_Mo_isCast e he)
set_option maxRecDepth 100000 in
theorem ob_Mo_made : tb_Mo_made.all (fun e => a_okb po_X11 kI_X11 kL_X11 cX11_made 3 (some .int) false e.1 e.2) = true := by decide +kernel
theorem ok_Mo_made : ∀ e ∈ tb_Mo_made, a_ok aYY aBB aMX aRR 238 e.1 e.2 := fun e he => a_okb_sound (mi := 238) aYY aBB aMX aRR pa_X11 ka_X11 kb_X11 k_arr rfl rfl rfl (fun h => by cases h) (List.all_eq_true.mp ob_Mo_made e he)
set_option maxRecDepth 100000 in
theorem ob_Mo_who : tb_Mo_who.all (fun e => a_okb po_X11 kI_X11 kL_X11 cX11_who 6 (some .int) false e.1 e.2) = true := by decide +kernel
theorem ok_Mo_who : ∀ e ∈ tb_Mo_who, a_ok aYY aBB aMX aRR 239 e.1 e.2 := fun e he => a_okb_sound (mi := 239) aYY aBB aMX aRR pa_X11 ka_X11 kb_X11 k_arr rfl rfl rfl (fun h => by cases h) (List.all_eq_true.mp ob_Mo_who e he)
set_option maxRecDepth 100000 in
theorem ob_Mo_show : tb_Mo_show.all (fun e => a_okb po_X11 kI_X11 kL_X11 cX11_show 8 (some .int) false e.1 e.2) = true := by decide +kernel
theorem ok_Mo_show : ∀ e ∈ tb_Mo_show, a_ok aYY aBB aMX aRR 240 e.1 e.2 := fun e he => a_okb_sound (mi := 240) aYY aBB aMX aRR pa_X11 ka_X11 kb_X11 k_arr rfl rfl rfl (fun h => by cases h) (List.all_eq_true.mp ob_Mo_show e he)
set_option maxRecDepth 100000 in
theorem ob_Mo_slipped : tb_Mo_slipped.all (fun e => a_okb po_X11 kI_X11 kL_X11 cX11_slipped 2 (some .int) false e.1 e.2) = true := by decide +kernel
theorem ok_Mo_slipped : ∀ e ∈ tb_Mo_slipped, a_ok aYY aBB aMX aRR 241 e.1 e.2 := fun e he => a_okb_sound (mi := 241) aYY aBB aMX aRR pa_X11 ka_X11 kb_X11 k_arr rfl rfl rfl (fun h => by cases h) (List.all_eq_true.mp ob_Mo_slipped e he)
set_option maxRecDepth 100000 in
theorem ob_Mo_count : tb_Mo_count.all (fun e => a_okb po_X11 kI_X11 kL_X11 cX11_count 8 (some .int) false e.1 e.2) = true := by decide +kernel
theorem ok_Mo_count : ∀ e ∈ tb_Mo_count, a_ok aYY aBB aMX aRR 242 e.1 e.2 := fun e he => a_okb_sound (mi := 242) aYY aBB aMX aRR pa_X11 ka_X11 kb_X11 k_arr rfl rfl rfl (fun h => by cases h) (List.all_eq_true.mp ob_Mo_count e he)
set_option maxRecDepth 100000 in
theorem ob_Mo_status : tb_Mo_status.all (fun e => a_okb po_X11 kI_X11 kL_X11 cX11_status 1 (some .int) false e.1 e.2) = true := by decide +kernel
theorem ok_Mo_status : ∀ e ∈ tb_Mo_status, a_ok aYY aBB aMX aRR 243 e.1 e.2 := fun e he => a_okb_sound (mi := 243) aYY aBB aMX aRR pa_X11 ka_X11 kb_X11 k_arr rfl rfl rfl (fun h => by cases h) (List.all_eq_true.mp ob_Mo_status e he)
set_option maxRecDepth 100000 in
theorem ob_J_ntzI : tb_J_ntzI.all (fun e => a_okb po_J6 kI_J6 kL_J6 cJ6_numberOfTrailingZeros_0f7a4 2 (some .int) false e.1 e.2) = true := by decide +kernel
theorem ok_J_ntzI : ∀ e ∈ tb_J_ntzI, a_ok aYY aBB aMX aRR 244 e.1 e.2 := fun e he => a_okb_sound (mi := 244) aYY aBB aMX aRR pa_J6 ka_J6 kb_J6 k_arr rfl rfl rfl (fun h => by cases h) (List.all_eq_true.mp ob_J_ntzI e he)
set_option maxRecDepth 100000 in
theorem ob_J_bitI : tb_J_bitI.all (fun e => a_okb po_J6 kI_J6 kL_J6 cJ6_bitCount_0f7a4 1 (some .int) false e.1 e.2) = true := by decide +kernel
theorem ok_J_bitI : ∀ e ∈ tb_J_bitI, a_ok aYY aBB aMX aRR 245 e.1 e.2 := fun e he => a_okb_sound (mi := 245) aYY aBB aMX aRR pa_J6 ka_J6 kb_J6 k_arr rfl rfl rfl (fun h => by cases h) (List.all_eq_true.mp ob_J_bitI e he)
set_option maxRecDepth 100000 in
theorem ob_J_ntzL : tb_J_ntzL.all (fun e => a_okb po_J13 kI_J13 kL_J13 cJ13_numberOfTrailingZeros_95d88 3 (some .int) false e.1 e.2) = true := by decide +kernel
theorem ok_J_ntzL : ∀ e ∈ tb_J_ntzL, a_ok aYY aBB aMX aRR 246 e.1 e.2 := fun e he => a_okb_sound (mi := 246) aYY aBB aMX aRR pa_J13 ka_J13 kb_J13 k_arr rfl rfl rfl (fun h => by cases h) (List.all_eq_true.mp ob_J_ntzL e he)
set_option maxRecDepth 100000 in
theorem ob_J_bitL : tb_J_bitL.all (fun e => a_okb po_J13 kI_J13 kL_J13 cJ13_bitCount_95d88 2 (some .int) false e.1 e.2) = true := by decide +kernel
theorem ok_J_bitL : ∀ e ∈ tb_J_bitL, a_ok aYY aBB aMX aRR 247 e.1 e.2 := fun e he => a_okb_sound (mi := 247) aYY aBB aMX aRR pa_J13 ka_J13 kb_J13 k_arr rfl rfl rfl (fun h => by cases h) (List.all_eq_true.mp ob_J_bitL e he)
set_option maxRecDepth 100000 in
theorem ob_J_rng : tb_J_rng.all (fun e => a_okb po_J7 kI_J7 kL_J7 cJ7_rangeCheck_23922 3 none false e.1 e.2) = true := by decide +kernel
theorem ok_J_rng : ∀ e ∈ tb_J_rng, a_ok aYY aBB aMX aRR 248 e.1 e.2 := fun e he => a_okb_sound (mi := 248) aYY aBB aMX aRR pa_J7 ka_J7 kb_J7 k_arr rfl rfl rfl (fun h => by cases h) (List.all_eq_true.mp ob_J_rng e he)
set_option maxRecDepth 100000 in
theorem ob_J_fillL : tb_J_fillL.all (fun e => a_okb po_J7 kI_J7 kL_J7 cJ7_fill_d0a16 5 none false e.1 e.2) = true := by decide +kernel
theorem ok_J_fillL : ∀ e ∈ tb_J_fillL, a_ok aYY aBB aMX aRR 249 e.1 e.2 := fun e he => a_okb_sound (mi := 249) aYY aBB aMX aRR pa_J7 ka_J7 kb_J7 k_arr rfl rfl rfl (fun h => by cases h) (List.all_eq_true.mp ob_J_fillL e he)
set_option maxRecDepth 100000 in
theorem ob_J_fillLr : tb_J_fillLr.all (fun e => a_okb po_J7 kI_J7 kL_J7 cJ7_fill_bad5a 6 none false e.1 e.2) = true := by decide +kernel
theorem ok_J_fillLr : ∀ e ∈ tb_J_fillLr, a_ok aYY aBB aMX aRR 250 e.1 e.2 := fun e he => a_okb_sound (mi := 250) aYY aBB aMX aRR pa_J7 ka_J7 kb_J7 k_arr rfl rfl rfl (fun h => by cases h) (List.all_eq_true.mp ob_J_fillLr e he)
set_option maxRecDepth 100000 in
theorem ob_J_fillI : tb_J_fillI.all (fun e => a_okb po_J7 kI_J7 kL_J7 cJ7_fill_53178 4 none false e.1 e.2) = true := by decide +kernel
theorem ok_J_fillI : ∀ e ∈ tb_J_fillI, a_ok aYY aBB aMX aRR 251 e.1 e.2 := fun e he => a_okb_sound (mi := 251) aYY aBB aMX aRR pa_J7 ka_J7 kb_J7 k_arr rfl rfl rfl (fun h => by cases h) (List.all_eq_true.mp ob_J_fillI e he)
set_option maxRecDepth 100000 in
theorem ob_J_fillIr : tb_J_fillIr.all (fun e => a_okb po_J7 kI_J7 kL_J7 cJ7_fill_fda19 5 none false e.1 e.2) = true := by decide +kernel
theorem ok_J_fillIr : ∀ e ∈ tb_J_fillIr, a_ok aYY aBB aMX aRR 252 e.1 e.2 := fun e he => a_okb_sound (mi := 252) aYY aBB aMX aRR pa_J7 ka_J7 kb_J7 k_arr rfl rfl rfl (fun h => by cases h) (List.all_eq_true.mp ob_J_fillIr e he)
set_option maxRecDepth 100000 in
theorem ob_law : tb_law.all (fun e => a_okb po_L kI_L kL_L cL_law 4 (some .boolean) false e.1 e.2) = true := by decide +kernel
theorem ok_law : ∀ e ∈ tb_law, a_ok aYY aBB aMX aRR 253 e.1 e.2 := fun e he => a_okb_sound (mi := 253) aYY aBB aMX aRR pa_L ka_L kb_L k_arr rfl rfl rfl (fun h => by cases h) (List.all_eq_true.mp ob_law e he)
theorem a_nd {n k : Nat} {A B : List (Nat × aI)} {P : List (Nat × aI) → Prop} (ha : k ≤ n → P A) (hb : n < k → P B) : P (match Nat.ble k n with
  | true => A
  | false => B) := by
  by_cases h : k ≤ n
  · rw [show Nat.ble k n = true from Nat.ble_eq.mpr h]; exact ha h
  · rw [show Nat.ble k n = false from by cases e : Nat.ble k n with | false => rfl | true => exact absurd (Nat.le_of_ble_eq_true e) h]; exact hb (by omega)
set_option maxRecDepth 100000 in
theorem ok_all (n : Nat) : ∀ e ∈ aTbs n, a_ok aYY aBB aMX aRR n e.1 e.2 := by
  unfold aTbs
  exact a_nd (P := fun l => ∀ e ∈ l, a_ok aYY aBB aMX aRR n e.1 e.2) (fun _ _ h => absurd h List.not_mem_nil) (fun h254 => (a_nd (fun h127 => (a_nd (fun h190 => (a_nd (fun h222 => (a_nd (fun h238 => (a_nd (fun h246 => (a_nd (fun h250 => (a_nd (fun h252 => (a_nd (fun h253 => (by obtain rfl : n = 253 := by omega
           exact ok_law)) (fun h253 => (by obtain rfl : n = 252 := by omega
           exact ok_J_fillIr)))) (fun h252 => (a_nd (fun h251 => (by obtain rfl : n = 251 := by omega
           exact ok_J_fillI)) (fun h251 => (by obtain rfl : n = 250 := by omega
           exact ok_J_fillLr)))))) (fun h250 => (a_nd (fun h248 => (a_nd (fun h249 => (by obtain rfl : n = 249 := by omega
           exact ok_J_fillL)) (fun h249 => (by obtain rfl : n = 248 := by omega
           exact ok_J_rng)))) (fun h248 => (a_nd (fun h247 => (by obtain rfl : n = 247 := by omega
           exact ok_J_bitL)) (fun h247 => (by obtain rfl : n = 246 := by omega
           exact ok_J_ntzL)))))))) (fun h246 => (a_nd (fun h242 => (a_nd (fun h244 => (a_nd (fun h245 => (by obtain rfl : n = 245 := by omega
           exact ok_J_bitI)) (fun h245 => (by obtain rfl : n = 244 := by omega
           exact ok_J_ntzI)))) (fun h244 => (a_nd (fun h243 => (by obtain rfl : n = 243 := by omega
           exact ok_Mo_status)) (fun h243 => (by obtain rfl : n = 242 := by omega
           exact ok_Mo_count)))))) (fun h242 => (a_nd (fun h240 => (a_nd (fun h241 => (by obtain rfl : n = 241 := by omega
           exact ok_Mo_slipped)) (fun h241 => (by obtain rfl : n = 240 := by omega
           exact ok_Mo_show)))) (fun h240 => (a_nd (fun h239 => (by obtain rfl : n = 239 := by omega
           exact ok_Mo_who)) (fun h239 => (by obtain rfl : n = 238 := by omega
           exact ok_Mo_made)))))))))) (fun h238 => (a_nd (fun h230 => (a_nd (fun h234 => (a_nd (fun h236 => (a_nd (fun h237 => (by obtain rfl : n = 237 := by omega
           exact ok_Mo_isCast)) (fun h237 => (by obtain rfl : n = 236 := by omega
           exact ok_Mo_take)))) (fun h236 => (a_nd (fun h235 => (by obtain rfl : n = 235 := by omega
           exact ok_Mo_goOver)) (fun h235 => (by obtain rfl : n = 234 := by omega
           exact ok_Mo_maskAt)))))) (fun h234 => (a_nd (fun h232 => (a_nd (fun h233 => (by obtain rfl : n = 233 := by omega
           exact ok_Mo_findMade)) (fun h233 => (by obtain rfl : n = 232 := by omega
           exact ok_Mo_tryPlace)))) (fun h232 => (a_nd (fun h231 => (by obtain rfl : n = 231 := by omega
           exact ok_Mo_findShadows)) (fun h231 => (by obtain rfl : n = 230 := by omega
           exact ok_Mo_findCells)))))))) (fun h230 => (a_nd (fun h226 => (a_nd (fun h228 => (a_nd (fun h229 => (by obtain rfl : n = 229 := by omega
           exact ok_Mo_barred)) (fun h229 => (by obtain rfl : n = 228 := by omega
           exact ok_Mo_fewest)))) (fun h228 => (a_nd (fun h227 => (by obtain rfl : n = 227 := by omega
           exact ok_Mo_passed)) (fun h227 => (by obtain rfl : n = 226 := by omega
           exact ok_Mo_holder)))))) (fun h226 => (a_nd (fun h224 => (a_nd (fun h225 => (by obtain rfl : n = 225 := by omega
           exact ok_Mo_least)) (fun h225 => (by obtain rfl : n = 224 := by omega
           exact ok_Mo_findFirst)))) (fun h224 => (a_nd (fun h223 => (by obtain rfl : n = 223 := by omega
           exact ok_Mo_passedBetween)) (fun h223 => (by obtain rfl : n = 222 := by omega
           exact ok_Mo_backFigure)))))))))))) (fun h222 => (a_nd (fun h206 => (a_nd (fun h214 => (a_nd (fun h218 => (a_nd (fun h220 => (a_nd (fun h221 => (by obtain rfl : n = 221 := by omega
           exact ok_Mo_reckonBeat)) (fun h221 => (by obtain rfl : n = 220 := by omega
           exact ok_Mo_findLeast)))) (fun h220 => (a_nd (fun h219 => (by obtain rfl : n = 219 := by omega
           exact ok_Mo_holdings)) (fun h219 => (by obtain rfl : n = 218 := by omega
           exact ok_Mo_holdingsOf)))))) (fun h218 => (a_nd (fun h216 => (a_nd (fun h217 => (by obtain rfl : n = 217 := by omega
           exact ok_Mo_isHolding)) (fun h217 => (by obtain rfl : n = 216 := by omega
           exact ok_Mo_holderIn)))) (fun h216 => (a_nd (fun h215 => (by obtain rfl : n = 215 := by omega
           exact ok_Mo_findCan)) (fun h215 => (by obtain rfl : n = 214 := by omega
           exact ok_Mo_holds)))))))) (fun h214 => (a_nd (fun h210 => (a_nd (fun h212 => (a_nd (fun h213 => (by obtain rfl : n = 213 := by omega
           exact ok_Mo_onBits)) (fun h213 => (by obtain rfl : n = 212 := by omega
           exact ok_Mo_isStill)))) (fun h212 => (a_nd (fun h211 => (by obtain rfl : n = 211 := by omega
           exact ok_Mo_isNear)) (fun h211 => (by obtain rfl : n = 210 := by omega
           exact ok_Mo_canHold)))))) (fun h210 => (a_nd (fun h208 => (a_nd (fun h209 => (by obtain rfl : n = 209 := by omega
           exact ok_Mo_copy)) (fun h209 => (by obtain rfl : n = 208 := by omega
           exact ok_Mo_common)))) (fun h208 => (a_nd (fun h207 => (by obtain rfl : n = 207 := by omega
           exact ok_Mo_seen)) (fun h207 => (by obtain rfl : n = 206 := by omega
           exact ok_Mo_shadow)))))))))) (fun h206 => (a_nd (fun h198 => (a_nd (fun h202 => (a_nd (fun h204 => (a_nd (fun h205 => (by obtain rfl : n = 205 := by omega
           exact ok_Mo_allRow)) (fun h205 => (by obtain rfl : n = 204 := by omega
           exact ok_Mo_shadowRow)))) (fun h204 => (a_nd (fun h203 => (by obtain rfl : n = 203 := by omega
           exact ok_Mo_tells)) (fun h203 => (by obtain rfl : n = 202 := by omega
           exact ok_Mo_isSo)))))) (fun h202 => (a_nd (fun h200 => (a_nd (fun h201 => (by obtain rfl : n = 201 := by omega
           exact ok_Mo_reckonAll)) (fun h201 => (by obtain rfl : n = 200 := by omega
           exact ok_Mo_reckon)))) (fun h200 => (a_nd (fun h199 => (by obtain rfl : n = 199 := by omega
           exact ok_Mo_play)) (fun h199 => (by obtain rfl : n = 198 := by omega
           exact ok_Mo_readClause)))))))) (fun h198 => (a_nd (fun h194 => (a_nd (fun h196 => (a_nd (fun h197 => (by obtain rfl : n = 197 := by omega
           exact ok_Mo_readBeat)) (fun h197 => (by obtain rfl : n = 196 := by omega
           exact ok_Mo_readExpression)))) (fun h196 => (a_nd (fun h195 => (by obtain rfl : n = 195 := by omega
           exact ok_Mo_behindTest)) (fun h195 => (by obtain rfl : n = 194 := by omega
           exact ok_Mo_behindSum)))))) (fun h194 => (a_nd (fun h192 => (a_nd (fun h193 => (by obtain rfl : n = 193 := by omega
           exact ok_Mo_readPlain)) (fun h193 => (by obtain rfl : n = 192 := by omega
           exact ok_Mo_readPart)))) (fun h192 => (a_nd (fun h191 => (by obtain rfl : n = 191 := by omega
           exact ok_Mo_leaf)) (fun h191 => (by obtain rfl : n = 190 := by omega
           exact ok_Mo_openBracket)))))))))))))) (fun h190 => (a_nd (fun h158 => (a_nd (fun h174 => (a_nd (fun h182 => (a_nd (fun h186 => (a_nd (fun h188 => (a_nd (fun h189 => (by obtain rfl : n = 189 := by omega
           exact ok_Mo_partAt)) (fun h189 => (by obtain rfl : n = 188 := by omega
           exact ok_Mo_isCompared)))) (fun h188 => (a_nd (fun h187 => (by obtain rfl : n = 187 := by omega
           exact ok_Mo_inner)) (fun h187 => (by obtain rfl : n = 186 := by omega
           exact ok_Mo_settle)))))) (fun h186 => (a_nd (fun h184 => (a_nd (fun h185 => (by obtain rfl : n = 185 := by omega
           exact ok_Mo_binds)) (fun h185 => (by obtain rfl : n = 184 := by omega
           exact ok_Mo_push)))) (fun h184 => (a_nd (fun h183 => (by obtain rfl : n = 183 := by omega
           exact ok_Mo_emit)) (fun h183 => (by obtain rfl : n = 182 := by omega
           exact ok_Mo_fault)))))))) (fun h182 => (a_nd (fun h178 => (a_nd (fun h180 => (a_nd (fun h181 => (by obtain rfl : n = 181 := by omega
           exact ok_Mo_number)) (fun h181 => (by obtain rfl : n = 180 := by omega
           exact ok_Mo_must)))) (fun h180 => (a_nd (fun h179 => (by obtain rfl : n = 179 := by omega
           exact ok_Mo_isSign)) (fun h179 => (by obtain rfl : n = 178 := by omega
           exact ok_Mo_isWord)))))) (fun h178 => (a_nd (fun h176 => (a_nd (fun h177 => (by obtain rfl : n = 177 := by omega
           exact ok_Mo_next)) (fun h177 => (by obtain rfl : n = 176 := by omega
           exact ok_Mo_begin)))) (fun h176 => (a_nd (fun h175 => (by obtain rfl : n = 175 := by omega
           exact ok_Mo_isDigit)) (fun h175 => (by obtain rfl : n = 174 := by omega
           exact ok_Mo_isSmall)))))))))) (fun h174 => (a_nd (fun h166 => (a_nd (fun h170 => (a_nd (fun h172 => (a_nd (fun h173 => (by obtain rfl : n = 173 := by omega
           exact ok_Mo_end)) (fun h173 => (by obtain rfl : n = 172 := by omega
           exact ok_Mo_feed)))) (fun h172 => (a_nd (fun h171 => (by obtain rfl : n = 171 := by omega
           exact ok_Mo_four)) (fun h171 => (by obtain rfl : n = 170 := by omega
           exact ok_Mo_sheet)))))) (fun h170 => (a_nd (fun h168 => (a_nd (fun h169 => (by obtain rfl : n = 169 := by omega
           exact ok_Mo_outline)) (fun h169 => (by obtain rfl : n = 168 := by omega
           exact ok_Mo_torn)))) (fun h168 => (a_nd (fun h167 => (by obtain rfl : n = 167 := by omega
           exact ok_Mo_row)) (fun h167 => (by obtain rfl : n = 166 := by omega
           exact ok_Mo_bits)))))))) (fun h166 => (a_nd (fun h162 => (a_nd (fun h164 => (a_nd (fun h165 => (by obtain rfl : n = 165 := by omega
           exact ok_Mo_of)) (fun h165 => (by obtain rfl : n = 164 := by omega
           exact ok_Mo_off)))) (fun h164 => (a_nd (fun h163 => (by obtain rfl : n = 163 := by omega
           exact ok_Mo_on)) (fun h163 => (by obtain rfl : n = 162 := by omega
           exact ok_Mo_put)))))) (fun h162 => (a_nd (fun h160 => (a_nd (fun h161 => (by obtain rfl : n = 161 := by omega
           exact ok_Mo_terms)) (fun h161 => (by obtain rfl : n = 160 := by omega
           exact ok_Mo_isTerm)))) (fun h160 => (a_nd (fun h159 => (by obtain rfl : n = 159 := by omega
           exact ok_Mo_sticks)) (fun h159 => (by obtain rfl : n = 158 := by omega
           exact ok_Mo_figure)))))))))))) (fun h158 => (a_nd (fun h142 => (a_nd (fun h150 => (a_nd (fun h154 => (a_nd (fun h156 => (a_nd (fun h157 => (by obtain rfl : n = 157 := by omega
           exact ok_Mo_deepOf)) (fun h157 => (by obtain rfl : n = 156 := by omega
           exact ok_Mo_isOn)))) (fun h156 => (a_nd (fun h155 => (by obtain rfl : n = 155 := by omega
           exact ok_Mo_placeOf)) (fun h155 => (by obtain rfl : n = 154 := by omega
           exact ok_Mo_term)))))) (fun h154 => (a_nd (fun h152 => (a_nd (fun h153 => (by obtain rfl : n = 153 := by omega
           exact ok_Mo_isBeat)) (fun h153 => (by obtain rfl : n = 152 := by omega
           exact ok_Mo_isFigure)))) (fun h152 => (a_nd (fun h151 => (by obtain rfl : n = 151 := by omega
           exact ok_Mo_back)) (fun h151 => (by obtain rfl : n = 150 := by omega
           exact ok_Mo_image)))))))) (fun h150 => (a_nd (fun h146 => (a_nd (fun h148 => (a_nd (fun h149 => (by obtain rfl : n = 149 := by omega
           exact ok_Mo_change)) (fun h149 => (by obtain rfl : n = 148 := by omega
           exact ok_Mo_was)))) (fun h148 => (a_nd (fun h147 => (by obtain rfl : n = 147 := by omega
           exact ok_Mo_tell)) (fun h147 => (by obtain rfl : n = 146 := by omega
           exact ok_Mo_is)))))) (fun h146 => (a_nd (fun h144 => (a_nd (fun h145 => (by obtain rfl : n = 145 := by omega
           exact ok_Mo_in)) (fun h145 => (by obtain rfl : n = 144 := by omega
           exact ok_Mo_init)))) (fun h144 => (a_nd (fun h143 => (by obtain rfl : n = 143 := by omega
           exact ok_Cp_countBeats)) (fun h143 => (by obtain rfl : n = 142 := by omega
           exact ok_Cp_takeSheet)))))))))) (fun h142 => (a_nd (fun h134 => (a_nd (fun h138 => (a_nd (fun h140 => (a_nd (fun h141 => (by obtain rfl : n = 141 := by omega
           exact ok_Cp_takeOutline)) (fun h141 => (by obtain rfl : n = 140 := by omega
           exact ok_Cp_writeWord)))) (fun h140 => (a_nd (fun h139 => (by obtain rfl : n = 139 := by omega
           exact ok_Cp_canBeAsked)) (fun h139 => (by obtain rfl : n = 138 := by omega
           exact ok_Cp_changeCast)))))) (fun h138 => (a_nd (fun h136 => (a_nd (fun h137 => (by obtain rfl : n = 137 := by omega
           exact ok_Cp_changeHands)) (fun h137 => (by obtain rfl : n = 136 := by omega
           exact ok_Cp_accept)))) (fun h136 => (a_nd (fun h135 => (by obtain rfl : n = 135 := by omega
           exact ok_Cp_refuse)) (fun h135 => (by obtain rfl : n = 134 := by omega
           exact ok_Cp_isBeat)))))))) (fun h134 => (a_nd (fun h130 => (a_nd (fun h132 => (a_nd (fun h133 => (by obtain rfl : n = 133 := by omega
           exact ok_Cp_status)) (fun h133 => (by obtain rfl : n = 132 := by omega
           exact ok_Cp_count)))) (fun h132 => (a_nd (fun h131 => (by obtain rfl : n = 131 := by omega
           exact ok_Cp_back)) (fun h131 => (by obtain rfl : n = 130 := by omega
           exact ok_Cp_image)))))) (fun h130 => (a_nd (fun h128 => (a_nd (fun h129 => (by obtain rfl : n = 129 := by omega
           exact ok_Cp_slipped)) (fun h129 => (by obtain rfl : n = 128 := by omega
           exact ok_Cp_show)))) (fun h128 => (by obtain rfl : n = 127 := by omega
           exact ok_Cp_copy)))))))))))))) (fun h127 => (a_nd (fun h63 => (a_nd (fun h95 => (a_nd (fun h111 => (a_nd (fun h119 => (a_nd (fun h123 => (a_nd (fun h125 => (a_nd (fun h126 => (by obtain rfl : n = 126 := by omega
           exact ok_Cp_sheet)) (fun h126 => (by obtain rfl : n = 125 := by omega
           exact ok_Cp_who)))) (fun h125 => (a_nd (fun h124 => (by obtain rfl : n = 124 := by omega
           exact ok_Cp_made)) (fun h124 => (by obtain rfl : n = 123 := by omega
           exact ok_Cp_barred)))))) (fun h123 => (a_nd (fun h121 => (a_nd (fun h122 => (by obtain rfl : n = 122 := by omega
           exact ok_Cp_fewest)) (fun h122 => (by obtain rfl : n = 121 := by omega
           exact ok_Cp_passed)))) (fun h121 => (a_nd (fun h120 => (by obtain rfl : n = 120 := by omega
           exact ok_Cp_holder)) (fun h120 => (by obtain rfl : n = 119 := by omega
           exact ok_Cp_least)))))))) (fun h119 => (a_nd (fun h115 => (a_nd (fun h117 => (a_nd (fun h118 => (by obtain rfl : n = 118 := by omega
           exact ok_Cp_holdings)) (fun h118 => (by obtain rfl : n = 117 := by omega
           exact ok_Cp_holds)))) (fun h117 => (a_nd (fun h116 => (by obtain rfl : n = 116 := by omega
           exact ok_Cp_common)) (fun h116 => (by obtain rfl : n = 115 := by omega
           exact ok_Cp_seen)))))) (fun h115 => (a_nd (fun h113 => (a_nd (fun h114 => (by obtain rfl : n = 114 := by omega
           exact ok_Cp_shadow)) (fun h114 => (by obtain rfl : n = 113 := by omega
           exact ok_Cp_fault)))) (fun h113 => (a_nd (fun h112 => (by obtain rfl : n = 112 := by omega
           exact ok_Cp_play)) (fun h112 => (by obtain rfl : n = 111 := by omega
           exact ok_Cp_outline)))))))))) (fun h111 => (a_nd (fun h103 => (a_nd (fun h107 => (a_nd (fun h109 => (a_nd (fun h110 => (by obtain rfl : n = 110 := by omega
           exact ok_Cp_torn)) (fun h110 => (by obtain rfl : n = 109 := by omega
           exact ok_Cp_row)))) (fun h109 => (a_nd (fun h108 => (by obtain rfl : n = 108 := by omega
           exact ok_Cp_end)) (fun h108 => (by obtain rfl : n = 107 := by omega
           exact ok_Cp_feed)))))) (fun h107 => (a_nd (fun h105 => (a_nd (fun h106 => (by obtain rfl : n = 106 := by omega
           exact ok_Cp_of)) (fun h106 => (by obtain rfl : n = 105 := by omega
           exact ok_Cp_off)))) (fun h105 => (a_nd (fun h104 => (by obtain rfl : n = 104 := by omega
           exact ok_Cp_on)) (fun h104 => (by obtain rfl : n = 103 := by omega
           exact ok_Cp_terms)))))))) (fun h103 => (a_nd (fun h99 => (a_nd (fun h101 => (a_nd (fun h102 => (by obtain rfl : n = 102 := by omega
           exact ok_Cp_sticks)) (fun h102 => (by obtain rfl : n = 101 := by omega
           exact ok_Cp_figure)))) (fun h101 => (a_nd (fun h100 => (by obtain rfl : n = 100 := by omega
           exact ok_Cp_init)) (fun h100 => (by obtain rfl : n = 99 := by omega
           exact ok_Target_lookFrom)))))) (fun h99 => (a_nd (fun h97 => (a_nd (fun h98 => (by obtain rfl : n = 98 := by omega
           exact ok_Target_lookAt)) (fun h98 => (by obtain rfl : n = 97 := by omega
           exact ok_Target_init)))) (fun h97 => (a_nd (fun h96 => (by obtain rfl : n = 96 := by omega
           exact ok_Script_takeFrom)) (fun h96 => (by obtain rfl : n = 95 := by omega
           exact ok_Script_endLaw)))))))))))) (fun h95 => (a_nd (fun h79 => (a_nd (fun h87 => (a_nd (fun h91 => (a_nd (fun h93 => (a_nd (fun h94 => (by obtain rfl : n = 94 := by omega
           exact ok_Script_startTest)) (fun h94 => (by obtain rfl : n = 93 := by omega
           exact ok_Script_startLaw)))) (fun h93 => (a_nd (fun h92 => (by obtain rfl : n = 92 := by omega
           exact ok_Script_jumpToHere)) (fun h92 => (by obtain rfl : n = 91 := by omega
           exact ok_Script_add)))))) (fun h91 => (a_nd (fun h89 => (a_nd (fun h90 => (by obtain rfl : n = 90 := by omega
           exact ok_Script_clear)) (fun h90 => (by obtain rfl : n = 89 := by omega
           exact ok_Script_init)))) (fun h89 => (a_nd (fun h88 => (by obtain rfl : n = 88 := by omega
           exact ok_Scene_takeFrom)) (fun h88 => (by obtain rfl : n = 87 := by omega
           exact ok_Scene_toldCells)))))))) (fun h87 => (a_nd (fun h83 => (a_nd (fun h85 => (a_nd (fun h86 => (by obtain rfl : n = 86 := by omega
           exact ok_Scene_stays)) (fun h86 => (by obtain rfl : n = 85 := by omega
           exact ok_Scene_put)))) (fun h85 => (a_nd (fun h84 => (by obtain rfl : n = 84 := by omega
           exact ok_Scene_onBits)) (fun h84 => (by obtain rfl : n = 83 := by omega
           exact ok_Scene_depth)))))) (fun h83 => (a_nd (fun h81 => (a_nd (fun h82 => (by obtain rfl : n = 82 := by omega
           exact ok_Scene_isOn)) (fun h82 => (by obtain rfl : n = 81 := by omega
           exact ok_Scene_has)))) (fun h81 => (a_nd (fun h80 => (by obtain rfl : n = 80 := by omega
           exact ok_Scene_init)) (fun h80 => (by obtain rfl : n = 79 := by omega
           exact ok_Reader_wordBetween)))))))))) (fun h79 => (a_nd (fun h71 => (a_nd (fun h75 => (a_nd (fun h77 => (a_nd (fun h78 => (by obtain rfl : n = 78 := by omega
           exact ok_Reader_advance)) (fun h78 => (by obtain rfl : n = 77 := by omega
           exact ok_Reader_takeNumber)))) (fun h77 => (a_nd (fun h76 => (by obtain rfl : n = 76 := by omega
           exact ok_Reader_take)) (fun h76 => (by obtain rfl : n = 75 := by omega
           exact ok_Reader_fail)))))) (fun h75 => (a_nd (fun h73 => (a_nd (fun h74 => (by obtain rfl : n = 74 := by omega
           exact ok_Reader_readPart)) (fun h74 => (by obtain rfl : n = 73 := by omega
           exact ok_Reader_readWithin)))) (fun h73 => (a_nd (fun h72 => (by obtain rfl : n = 72 := by omega
           exact ok_Reader_readComparison)) (fun h72 => (by obtain rfl : n = 71 := by omega
           exact ok_Reader_readPlain)))))))) (fun h71 => (a_nd (fun h67 => (a_nd (fun h69 => (a_nd (fun h70 => (by obtain rfl : n = 70 := by omega
           exact ok_Reader_operationAt)) (fun h70 => (by obtain rfl : n = 69 := by omega
           exact ok_Reader_readLevel)))) (fun h69 => (a_nd (fun h68 => (by obtain rfl : n = 68 := by omega
           exact ok_Reader_readMove)) (fun h68 => (by obtain rfl : n = 67 := by omega
           exact ok_Reader_readClause)))))) (fun h67 => (a_nd (fun h65 => (a_nd (fun h66 => (by obtain rfl : n = 66 := by omega
           exact ok_Reader_tellMoves)) (fun h66 => (by obtain rfl : n = 65 := by omega
           exact ok_Reader_readText)))) (fun h65 => (a_nd (fun h64 => (by obtain rfl : n = 64 := by omega
           exact ok_Reader_init)) (fun h64 => (by obtain rfl : n = 63 := by omega
           exact ok_Prints_add)))))))))))))) (fun h63 => (a_nd (fun h31 => (a_nd (fun h47 => (a_nd (fun h55 => (a_nd (fun h59 => (a_nd (fun h61 => (a_nd (fun h62 => (by obtain rfl : n = 62 := by omega
           exact ok_Prints_maskAt)) (fun h62 => (by obtain rfl : n = 61 := by omega
           exact ok_Prints_staysWithin)))) (fun h61 => (a_nd (fun h60 => (by obtain rfl : n = 60 := by omega
           exact ok_Prints_gather)) (fun h60 => (by obtain rfl : n = 59 := by omega
           exact ok_Prints_init)))))) (fun h59 => (a_nd (fun h57 => (a_nd (fun h58 => (by obtain rfl : n = 58 := by omega
           exact ok_Planner_passTo)) (fun h58 => (by obtain rfl : n = 57 := by omega
           exact ok_Planner_followFirst)))) (fun h57 => (a_nd (fun h56 => (by obtain rfl : n = 56 := by omega
           exact ok_Planner_sumUp)) (fun h56 => (by obtain rfl : n = 55 := by omega
           exact ok_Planner_give)))))))) (fun h55 => (a_nd (fun h51 => (a_nd (fun h53 => (a_nd (fun h54 => (by obtain rfl : n = 54 := by omega
           exact ok_Planner_keepHoldings)) (fun h54 => (by obtain rfl : n = 53 := by omega
           exact ok_Planner_either)))) (fun h53 => (a_nd (fun h52 => (by obtain rfl : n = 52 := by omega
           exact ok_Planner_mix)) (fun h52 => (by obtain rfl : n = 51 := by omega
           exact ok_Planner_carryBack)))))) (fun h51 => (a_nd (fun h49 => (a_nd (fun h50 => (by obtain rfl : n = 50 := by omega
           exact ok_Planner_fillCosts)) (fun h50 => (by obtain rfl : n = 49 := by omega
           exact ok_Planner_costAt)))) (fun h49 => (a_nd (fun h48 => (by obtain rfl : n = 48 := by omega
           exact ok_Planner_sizeOf)) (fun h48 => (by obtain rfl : n = 47 := by omega
           exact ok_Planner_holderOf)))))))))) (fun h47 => (a_nd (fun h39 => (a_nd (fun h43 => (a_nd (fun h45 => (a_nd (fun h46 => (by obtain rfl : n = 46 := by omega
           exact ok_Planner_passesOf)) (fun h46 => (by obtain rfl : n = 45 := by omega
           exact ok_Planner_holderAt)))) (fun h45 => (a_nd (fun h44 => (by obtain rfl : n = 44 := by omega
           exact ok_Planner_findLeast)) (fun h44 => (by obtain rfl : n = 43 := by omega
           exact ok_Planner_init)))))) (fun h43 => (a_nd (fun h41 => (a_nd (fun h42 => (by obtain rfl : n = 42 := by omega
           exact ok_Maker_countFilling)) (fun h42 => (by obtain rfl : n = 41 := by omega
           exact ok_Maker_keepFirst)))) (fun h41 => (a_nd (fun h40 => (by obtain rfl : n = 40 := by omega
           exact ok_Maker_countBeside)) (fun h40 => (by obtain rfl : n = 39 := by omega
           exact ok_Maker_rarestCell)))))))) (fun h39 => (a_nd (fun h35 => (a_nd (fun h37 => (a_nd (fun h38 => (by obtain rfl : n = 38 := by omega
           exact ok_Maker_tryTriple)) (fun h38 => (by obtain rfl : n = 37 := by omega
           exact ok_Maker_tryPair)))) (fun h37 => (a_nd (fun h36 => (by obtain rfl : n = 36 := by omega
           exact ok_Maker_trySingle)) (fun h36 => (by obtain rfl : n = 35 := by omega
           exact ok_Maker_choose)))))) (fun h35 => (a_nd (fun h33 => (a_nd (fun h34 => (by obtain rfl : n = 34 := by omega
           exact ok_Maker_isBetter)) (fun h34 => (by obtain rfl : n = 33 := by omega
           exact ok_Maker_trySet)))) (fun h33 => (a_nd (fun h32 => (by obtain rfl : n = 32 := by omega
           exact ok_Maker_gatherCast)) (fun h32 => (by obtain rfl : n = 31 := by omega
           exact ok_Maker_tellOf)))))))))))) (fun h31 => (a_nd (fun h15 => (a_nd (fun h23 => (a_nd (fun h27 => (a_nd (fun h29 => (a_nd (fun h30 => (by obtain rfl : n = 30 := by omega
           exact ok_Maker_wayCount)) (fun h30 => (by obtain rfl : n = 29 := by omega
           exact ok_Maker_solve)))) (fun h29 => (a_nd (fun h28 => (by obtain rfl : n = 28 := by omega
           exact ok_Maker_forget)) (fun h28 => (by obtain rfl : n = 27 := by omega
           exact ok_Maker_init)))))) (fun h27 => (a_nd (fun h25 => (a_nd (fun h26 => (by obtain rfl : n = 26 := by omega
           exact ok_Light_blur)) (fun h26 => (by obtain rfl : n = 25 := by omega
           exact ok_Light_hiddenCells)))) (fun h25 => (a_nd (fun h24 => (by obtain rfl : n = 24 := by omega
           exact ok_Light_cellsInBoth)) (fun h24 => (by obtain rfl : n = 23 := by omega
           exact ok_Light_rowOfAll)))))))) (fun h23 => (a_nd (fun h19 => (a_nd (fun h21 => (a_nd (fun h22 => (by obtain rfl : n = 22 := by omega
           exact ok_Light_rowOf)) (fun h22 => (by obtain rfl : n = 21 := by omega
           exact ok_Light_project)))) (fun h21 => (a_nd (fun h20 => (by obtain rfl : n = 20 := by omega
           exact ok_Light_init)) (fun h20 => (by obtain rfl : n = 19 := by omega
           exact ok_Hands_isTogether)))))) (fun h19 => (a_nd (fun h17 => (a_nd (fun h18 => (by obtain rfl : n = 18 := by omega
           exact ok_Hands_handsSuffice)) (fun h18 => (by obtain rfl : n = 17 := by omega
           exact ok_Hands_setsFor)))) (fun h17 => (a_nd (fun h16 => (by obtain rfl : n = 16 := by omega
           exact ok_Hands_allowedFor)) (fun h16 => (by obtain rfl : n = 15 := by omega
           exact ok_Hands_farFrom)))))))))) (fun h15 => (a_nd (fun h7 => (a_nd (fun h11 => (a_nd (fun h13 => (a_nd (fun h14 => (by obtain rfl : n = 14 := by omega
           exact ok_Hands_spreadWays)) (fun h14 => (by obtain rfl : n = 13 := by omega
           exact ok_Hands_spread)))) (fun h13 => (a_nd (fun h12 => (by obtain rfl : n = 12 := by omega
           exact ok_Hands_reached)) (fun h12 => (by obtain rfl : n = 11 := by omega
           exact ok_Hands_coreAt)))))) (fun h11 => (a_nd (fun h9 => (a_nd (fun h10 => (by obtain rfl : n = 10 := by omega
           exact ok_Hands_firstBarred)) (fun h10 => (by obtain rfl : n = 9 := by omega
           exact ok_Hands_waysOfAll)))) (fun h9 => (a_nd (fun h8 => (by obtain rfl : n = 8 := by omega
           exact ok_Hands_canHold)) (fun h8 => (by obtain rfl : n = 7 := by omega
           exact ok_Hands_lookAt)))))))) (fun h7 => (a_nd (fun h3 => (a_nd (fun h5 => (a_nd (fun h6 => (by obtain rfl : n = 6 := by omega
           exact ok_Hands_forget)) (fun h6 => (by obtain rfl : n = 5 := by omega
           exact ok_Hands_init)))) (fun h5 => (a_nd (fun h4 => (by obtain rfl : n = 4 := by omega
           exact ok_Asker_join)) (fun h4 => (by obtain rfl : n = 3 := by omega
           exact ok_Asker_valueOf)))))) (fun h3 => (a_nd (fun h1 => (a_nd (fun h2 => (by obtain rfl : n = 2 := by omega
           exact ok_Asker_tellLast)) (fun h2 => (by obtain rfl : n = 1 := by omega
           exact ok_Asker_turnTo)))) (fun h1 => (by obtain rfl : n = 0 := by omega
           exact ok_Asker_init))))))))))))))))
theorem a_prog : ∀ mi pc x, aTab mi pc = some x → a_ok aYY aBB aMX aRR mi pc x := fun mi pc x h => ok_all mi (pc, x) (a_look_mem h)
