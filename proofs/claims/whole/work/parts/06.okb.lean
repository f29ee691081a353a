/-! ===== tables, laid by wip/whole/gen_tab.py out of the decode rows that are printed for the claim ===== -/
theorem a_all2 {α : Type} {p : α → Bool} {l : List α} (n : Nat) (h1 : (l.take n).all p = true) (h2 : (l.drop n).all p = true) : l.all p = true := by
  rw [← List.take_append_drop n l, List.all_append, h1, h2]
  rfl
set_option maxRecDepth 100000 in
theorem ob_Asker_init : tb_Asker_init.all (fun e => a_okb po_X0 kI_X0 kL_X0 cX0_init 2 none true e.1 e.2) = true := by decide +kernel
set_option maxRecDepth 100000 in
theorem ob_Asker_turnTo : tb_Asker_turnTo.all (fun e => a_okb po_X0 kI_X0 kL_X0 cX0_turnTo 6 none false e.1 e.2) = true := by decide +kernel
set_option maxRecDepth 100000 in
theorem ob_Asker_tellLast : tb_Asker_tellLast.all (fun e => a_okb po_X0 kI_X0 kL_X0 cX0_tellLast 10 (some .int) false e.1 e.2) = true := by decide +kernel
set_option maxRecDepth 100000 in
theorem ob_Asker_valueOf_0 : (tb_Asker_valueOf.take 60).all (fun e => a_okb po_X0 kI_X0 kL_X0 cX0_valueOf 10 (some .long) false e.1 e.2) = true := by decide +kernel
set_option maxRecDepth 100000 in
theorem ob_Asker_valueOf_1 : ((tb_Asker_valueOf.drop 60).take 60).all (fun e => a_okb po_X0 kI_X0 kL_X0 cX0_valueOf 10 (some .long) false e.1 e.2) = true := by decide +kernel
set_option maxRecDepth 100000 in
theorem ob_Asker_valueOf_2 : ((tb_Asker_valueOf.drop 60).drop 60).all (fun e => a_okb po_X0 kI_X0 kL_X0 cX0_valueOf 10 (some .long) false e.1 e.2) = true := by decide +kernel
theorem ob_Asker_valueOf : tb_Asker_valueOf.all (fun e => a_okb po_X0 kI_X0 kL_X0 cX0_valueOf 10 (some .long) false e.1 e.2) = true := a_all2 60 ob_Asker_valueOf_0 (a_all2 60 ob_Asker_valueOf_1 (ob_Asker_valueOf_2))
set_option maxRecDepth 100000 in
theorem ob_Asker_join : tb_Asker_join.all (fun e => a_okb po_X0 kI_X0 kL_X0 cX0_join 5 (some .long) false e.1 e.2) = true := by decide +kernel
set_option maxRecDepth 100000 in
theorem ob_Hands_init : tb_Hands_init.all (fun e => a_okb po_X1 kI_X1 kL_X1 cX1_init 3 none true e.1 e.2) = true := by decide +kernel
set_option maxRecDepth 100000 in
theorem ob_Hands_forget : tb_Hands_forget.all (fun e => a_okb po_X1 kI_X1 kL_X1 cX1_forget 2 none false e.1 e.2) = true := by decide +kernel
set_option maxRecDepth 100000 in
theorem ob_Hands_lookAt : tb_Hands_lookAt.all (fun e => a_okb po_X1 kI_X1 kL_X1 cX1_lookAt 3 none false e.1 e.2) = true := by decide +kernel
set_option maxRecDepth 100000 in
theorem ob_Hands_canHold : tb_Hands_canHold.all (fun e => a_okb po_X1 kI_X1 kL_X1 cX1_canHold 4 (some .boolean) false e.1 e.2) = true := by decide +kernel
set_option maxRecDepth 100000 in
theorem ob_Hands_waysOfAll : tb_Hands_waysOfAll.all (fun e => a_okb po_X1 kI_X1 kL_X1 cX1_waysOfAll 5 (some .int) false e.1 e.2) = true := by decide +kernel
set_option maxRecDepth 100000 in
theorem ob_Hands_firstBarred : tb_Hands_firstBarred.all (fun e => a_okb po_X1 kI_X1 kL_X1 cX1_firstBarred 3 (some .int) false e.1 e.2) = true := by decide +kernel
set_option maxRecDepth 100000 in
theorem ob_Hands_coreAt : tb_Hands_coreAt.all (fun e => a_okb po_X1 kI_X1 kL_X1 cX1_coreAt 8 (some .int) false e.1 e.2) = true := by decide +kernel
set_option maxRecDepth 100000 in
theorem ob_Hands_reached : tb_Hands_reached.all (fun e => a_okb po_X1 kI_X1 kL_X1 cX1_reached 6 (some .long) false e.1 e.2) = true := by decide +kernel
set_option maxRecDepth 100000 in
theorem ob_Hands_spread : tb_Hands_spread.all (fun e => a_okb po_X1 kI_X1 kL_X1 cX1_spread 10 (some .long) false e.1 e.2) = true := by decide +kernel
set_option maxRecDepth 100000 in
theorem ob_Hands_spreadWays : tb_Hands_spreadWays.all (fun e => a_okb po_X1 kI_X1 kL_X1 cX1_spreadWays 9 none false e.1 e.2) = true := by decide +kernel
set_option maxRecDepth 100000 in
theorem ob_Hands_farFrom : tb_Hands_farFrom.all (fun e => a_okb po_X1 kI_X1 kL_X1 cX1_farFrom 7 (some .int) false e.1 e.2) = true := by decide +kernel
set_option maxRecDepth 100000 in
theorem ob_Hands_allowedFor : tb_Hands_allowedFor.all (fun e => a_okb po_X1 kI_X1 kL_X1 cX1_allowedFor 5 (some .int) false e.1 e.2) = true := by decide +kernel
set_option maxRecDepth 100000 in
theorem ob_Hands_setsFor : tb_Hands_setsFor.all (fun e => a_okb po_X1 kI_X1 kL_X1 cX1_setsFor 7 (some .long) false e.1 e.2) = true := by decide +kernel
set_option maxRecDepth 100000 in
theorem ob_Hands_handsSuffice : tb_Hands_handsSuffice.all (fun e => a_okb po_X1 kI_X1 kL_X1 cX1_handsSuffice 5 (some .boolean) false e.1 e.2) = true := by decide +kernel
set_option maxRecDepth 100000 in
theorem ob_Hands_isTogether : tb_Hands_isTogether.all (fun e => a_okb po_X1 kI_X1 kL_X1 cX1_isTogether 3 (some .boolean) false e.1 e.2) = true := by decide +kernel
set_option maxRecDepth 100000 in
theorem ob_Light_init : tb_Light_init.all (fun e => a_okb po_X2 kI_X2 kL_X2 cX2_init 2 none true e.1 e.2) = true := by decide +kernel
set_option maxRecDepth 100000 in
theorem ob_Light_project : tb_Light_project.all (fun e => a_okb po_X2 kI_X2 kL_X2 cX2_project 3 (some .int) false e.1 e.2) = true := by decide +kernel
set_option maxRecDepth 100000 in
theorem ob_Light_rowOf : tb_Light_rowOf.all (fun e => a_okb po_X2 kI_X2 kL_X2 cX2_rowOf 12 (some .int) false e.1 e.2) = true := by decide +kernel
set_option maxRecDepth 100000 in
theorem ob_Light_rowOfAll : tb_Light_rowOfAll.all (fun e => a_okb po_X2 kI_X2 kL_X2 cX2_rowOfAll 5 (some .int) false e.1 e.2) = true := by decide +kernel
set_option maxRecDepth 100000 in
theorem ob_Light_cellsInBoth : tb_Light_cellsInBoth.all (fun e => a_okb po_X2 kI_X2 kL_X2 cX2_cellsInBoth 6 (some .int) false e.1 e.2) = true := by decide +kernel
set_option maxRecDepth 100000 in
theorem ob_Light_hiddenCells : tb_Light_hiddenCells.all (fun e => a_okb po_X2 kI_X2 kL_X2 cX2_hiddenCells 9 (some .int) false e.1 e.2) = true := by decide +kernel
set_option maxRecDepth 100000 in
theorem ob_Light_blur : tb_Light_blur.all (fun e => a_okb po_X2 kI_X2 kL_X2 cX2_blur 4 (some .int) false e.1 e.2) = true := by decide +kernel
set_option maxRecDepth 100000 in
theorem ob_Maker_init : tb_Maker_init.all (fun e => a_okb po_X3 kI_X3 kL_X3 cX3_init 2 none true e.1 e.2) = true := by decide +kernel
set_option maxRecDepth 100000 in
theorem ob_Maker_forget : tb_Maker_forget.all (fun e => a_okb po_X3 kI_X3 kL_X3 cX3_forget 2 none false e.1 e.2) = true := by decide +kernel
set_option maxRecDepth 100000 in
theorem ob_Maker_solve : tb_Maker_solve.all (fun e => a_okb po_X3 kI_X3 kL_X3 cX3_solve 3 none false e.1 e.2) = true := by decide +kernel
set_option maxRecDepth 100000 in
theorem ob_Maker_wayCount : tb_Maker_wayCount.all (fun e => a_okb po_X3 kI_X3 kL_X3 cX3_wayCount 1 (some .int) false e.1 e.2) = true := by decide +kernel
set_option maxRecDepth 100000 in
theorem ob_Maker_tellOf : tb_Maker_tellOf.all (fun e => a_okb po_X3 kI_X3 kL_X3 cX3_tellOf 5 (some .int) false e.1 e.2) = true := by decide +kernel
set_option maxRecDepth 100000 in
theorem ob_Maker_gatherCast : tb_Maker_gatherCast.all (fun e => a_okb po_X3 kI_X3 kL_X3 cX3_gatherCast 2 none false e.1 e.2) = true := by decide +kernel
set_option maxRecDepth 100000 in
theorem ob_Maker_trySet : tb_Maker_trySet.all (fun e => a_okb po_X3 kI_X3 kL_X3 cX3_trySet 6 none false e.1 e.2) = true := by decide +kernel
set_option maxRecDepth 100000 in
theorem ob_Maker_isBetter : tb_Maker_isBetter.all (fun e => a_okb po_X3 kI_X3 kL_X3 cX3_isBetter 2 (some .boolean) false e.1 e.2) = true := by decide +kernel
set_option maxRecDepth 100000 in
theorem ob_Maker_choose : tb_Maker_choose.all (fun e => a_okb po_X3 kI_X3 kL_X3 cX3_choose 2 none false e.1 e.2) = true := by decide +kernel
set_option maxRecDepth 100000 in
theorem ob_Maker_trySingle : tb_Maker_trySingle.all (fun e => a_okb po_X3 kI_X3 kL_X3 cX3_trySingle 4 none false e.1 e.2) = true := by decide +kernel
set_option maxRecDepth 100000 in
theorem ob_Maker_tryPair : tb_Maker_tryPair.all (fun e => a_okb po_X3 kI_X3 kL_X3 cX3_tryPair 11 none false e.1 e.2) = true := by decide +kernel
set_option maxRecDepth 100000 in
theorem ob_Maker_tryTriple_0 : (tb_Maker_tryTriple.take 60).all (fun e => a_okb po_X3 kI_X3 kL_X3 cX3_tryTriple 13 none false e.1 e.2) = true := by decide +kernel
set_option maxRecDepth 100000 in
theorem ob_Maker_tryTriple_1 : ((tb_Maker_tryTriple.drop 60).take 60).all (fun e => a_okb po_X3 kI_X3 kL_X3 cX3_tryTriple 13 none false e.1 e.2) = true := by decide +kernel
set_option maxRecDepth 100000 in
theorem ob_Maker_tryTriple_2 : ((tb_Maker_tryTriple.drop 60).drop 60).all (fun e => a_okb po_X3 kI_X3 kL_X3 cX3_tryTriple 13 none false e.1 e.2) = true := by decide +kernel
theorem ob_Maker_tryTriple : tb_Maker_tryTriple.all (fun e => a_okb po_X3 kI_X3 kL_X3 cX3_tryTriple 13 none false e.1 e.2) = true := a_all2 60 ob_Maker_tryTriple_0 (a_all2 60 ob_Maker_tryTriple_1 (ob_Maker_tryTriple_2))
set_option maxRecDepth 100000 in
theorem ob_Maker_rarestCell : tb_Maker_rarestCell.all (fun e => a_okb po_X3 kI_X3 kL_X3 cX3_rarestCell 6 (some .int) false e.1 e.2) = true := by decide +kernel
set_option maxRecDepth 100000 in
theorem ob_Maker_countBeside : tb_Maker_countBeside.all (fun e => a_okb po_X3 kI_X3 kL_X3 cX3_countBeside 16 (some .long) false e.1 e.2) = true := by decide +kernel
set_option maxRecDepth 100000 in
theorem ob_Maker_keepFirst : tb_Maker_keepFirst.all (fun e => a_okb po_X3 kI_X3 kL_X3 cX3_keepFirst 3 none false e.1 e.2) = true := by decide +kernel
set_option maxRecDepth 100000 in
theorem ob_Maker_countFilling_0 : (tb_Maker_countFilling.take 60).all (fun e => a_okb po_X3 kI_X3 kL_X3 cX3_countFilling 18 (some .long) false e.1 e.2) = true := by decide +kernel
set_option maxRecDepth 100000 in
theorem ob_Maker_countFilling_1 : ((tb_Maker_countFilling.drop 60).take 60).all (fun e => a_okb po_X3 kI_X3 kL_X3 cX3_countFilling 18 (some .long) false e.1 e.2) = true := by decide +kernel
set_option maxRecDepth 100000 in
theorem ob_Maker_countFilling_2 : ((tb_Maker_countFilling.drop 60).drop 60).all (fun e => a_okb po_X3 kI_X3 kL_X3 cX3_countFilling 18 (some .long) false e.1 e.2) = true := by decide +kernel
theorem ob_Maker_countFilling : tb_Maker_countFilling.all (fun e => a_okb po_X3 kI_X3 kL_X3 cX3_countFilling 18 (some .long) false e.1 e.2) = true := a_all2 60 ob_Maker_countFilling_0 (a_all2 60 ob_Maker_countFilling_1 (ob_Maker_countFilling_2))
set_option maxRecDepth 100000 in
theorem ob_Planner_init : tb_Planner_init.all (fun e => a_okb po_X4 kI_X4 kL_X4 cX4_init 4 none true e.1 e.2) = true := by decide +kernel
set_option maxRecDepth 100000 in
theorem ob_Planner_findLeast : tb_Planner_findLeast.all (fun e => a_okb po_X4 kI_X4 kL_X4 cX4_findLeast 2 (some .boolean) false e.1 e.2) = true := by decide +kernel
set_option maxRecDepth 100000 in
theorem ob_Planner_holderAt : tb_Planner_holderAt.all (fun e => a_okb po_X4 kI_X4 kL_X4 cX4_holderAt 3 (some .int) false e.1 e.2) = true := by decide +kernel
set_option maxRecDepth 100000 in
theorem ob_Planner_passesOf : tb_Planner_passesOf.all (fun e => a_okb po_X4 kI_X4 kL_X4 cX4_passesOf 6 (some .int) false e.1 e.2) = true := by decide +kernel
set_option maxRecDepth 100000 in
theorem ob_Planner_holderOf : tb_Planner_holderOf.all (fun e => a_okb po_X4 kI_X4 kL_X4 cX4_holderOf 2 (some .int) false e.1 e.2) = true := by decide +kernel
set_option maxRecDepth 100000 in
theorem ob_Planner_sizeOf : tb_Planner_sizeOf.all (fun e => a_okb po_X4 kI_X4 kL_X4 cX4_sizeOf 4 (some .int) false e.1 e.2) = true := by decide +kernel
set_option maxRecDepth 100000 in
theorem ob_Planner_costAt : tb_Planner_costAt.all (fun e => a_okb po_X4 kI_X4 kL_X4 cX4_costAt 4 (some .int) false e.1 e.2) = true := by decide +kernel
set_option maxRecDepth 100000 in
theorem ob_Planner_fillCosts : tb_Planner_fillCosts.all (fun e => a_okb po_X4 kI_X4 kL_X4 cX4_fillCosts 7 none false e.1 e.2) = true := by decide +kernel
set_option maxRecDepth 100000 in
theorem ob_Planner_carryBack : tb_Planner_carryBack.all (fun e => a_okb po_X4 kI_X4 kL_X4 cX4_carryBack 8 none false e.1 e.2) = true := by decide +kernel
set_option maxRecDepth 100000 in
theorem ob_Planner_mix_0 : (tb_Planner_mix.take 60).all (fun e => a_okb po_X4 kI_X4 kL_X4 cX4_mix 18 none false e.1 e.2) = true := by decide +kernel
set_option maxRecDepth 100000 in
theorem ob_Planner_mix_1 : (tb_Planner_mix.drop 60).all (fun e => a_okb po_X4 kI_X4 kL_X4 cX4_mix 18 none false e.1 e.2) = true := by decide +kernel
theorem ob_Planner_mix : tb_Planner_mix.all (fun e => a_okb po_X4 kI_X4 kL_X4 cX4_mix 18 none false e.1 e.2) = true := a_all2 60 ob_Planner_mix_0 (ob_Planner_mix_1)
set_option maxRecDepth 100000 in
theorem ob_Planner_either : tb_Planner_either.all (fun e => a_okb po_X4 kI_X4 kL_X4 cX4_either 4 (some .long) false e.1 e.2) = true := by decide +kernel
set_option maxRecDepth 100000 in
theorem ob_Planner_keepHoldings : tb_Planner_keepHoldings.all (fun e => a_okb po_X4 kI_X4 kL_X4 cX4_keepHoldings 3 none false e.1 e.2) = true := by decide +kernel
set_option maxRecDepth 100000 in
theorem ob_Planner_give : tb_Planner_give.all (fun e => a_okb po_X4 kI_X4 kL_X4 cX4_give 8 none false e.1 e.2) = true := by decide +kernel
set_option maxRecDepth 100000 in
theorem ob_Planner_sumUp : tb_Planner_sumUp.all (fun e => a_okb po_X4 kI_X4 kL_X4 cX4_sumUp 5 none false e.1 e.2) = true := by decide +kernel
set_option maxRecDepth 100000 in
theorem ob_Planner_followFirst : tb_Planner_followFirst.all (fun e => a_okb po_X4 kI_X4 kL_X4 cX4_followFirst 5 none false e.1 e.2) = true := by decide +kernel
set_option maxRecDepth 100000 in
theorem ob_Planner_passTo : tb_Planner_passTo.all (fun e => a_okb po_X4 kI_X4 kL_X4 cX4_passTo 7 (some .int) false e.1 e.2) = true := by decide +kernel
set_option maxRecDepth 100000 in
theorem ob_Prints_init : tb_Prints_init.all (fun e => a_okb po_X5 kI_X5 kL_X5 cX5_init 1 none true e.1 e.2) = true := by decide +kernel
set_option maxRecDepth 100000 in
theorem ob_Prints_gather : tb_Prints_gather.all (fun e => a_okb po_X5 kI_X5 kL_X5 cX5_gather 9 none false e.1 e.2) = true := by decide +kernel
set_option maxRecDepth 100000 in
theorem ob_Prints_staysWithin : tb_Prints_staysWithin.all (fun e => a_okb po_X5 kI_X5 kL_X5 cX5_staysWithin 12 (some .boolean) false e.1 e.2) = true := by decide +kernel
set_option maxRecDepth 100000 in
theorem ob_Prints_maskAt : tb_Prints_maskAt.all (fun e => a_okb po_X5 kI_X5 kL_X5 cX5_maskAt 11 (some .long) false e.1 e.2) = true := by decide +kernel
set_option maxRecDepth 100000 in
theorem ob_Prints_add_0 : (tb_Prints_add.take 60).all (fun e => a_okb po_X5 kI_X5 kL_X5 cX5_add 7 none false e.1 e.2) = true := by decide +kernel
set_option maxRecDepth 100000 in
theorem ob_Prints_add_1 : ((tb_Prints_add.drop 60).take 60).all (fun e => a_okb po_X5 kI_X5 kL_X5 cX5_add 7 none false e.1 e.2) = true := by decide +kernel
set_option maxRecDepth 100000 in
theorem ob_Prints_add_2 : ((tb_Prints_add.drop 60).drop 60).all (fun e => a_okb po_X5 kI_X5 kL_X5 cX5_add 7 none false e.1 e.2) = true := by decide +kernel
theorem ob_Prints_add : tb_Prints_add.all (fun e => a_okb po_X5 kI_X5 kL_X5 cX5_add 7 none false e.1 e.2) = true := a_all2 60 ob_Prints_add_0 (a_all2 60 ob_Prints_add_1 (ob_Prints_add_2))
set_option maxRecDepth 100000 in
theorem ob_Reader_init : tb_Reader_init.all (fun e => a_okb po_X6 kI_X6 kL_X6 cX6_init 1 none true e.1 e.2) = true := by decide +kernel
set_option maxRecDepth 100000 in
theorem ob_Reader_readText : tb_Reader_readText.all (fun e => a_okb po_X6 kI_X6 kL_X6 cX6_readText 4 (some .boolean) false e.1 e.2) = true := by decide +kernel
set_option maxRecDepth 100000 in
theorem ob_Reader_tellMoves : tb_Reader_tellMoves.all (fun e => a_okb po_X6 kI_X6 kL_X6 cX6_tellMoves 5 none false e.1 e.2) = true := by decide +kernel
set_option maxRecDepth 100000 in
theorem ob_Reader_readClause : tb_Reader_readClause.all (fun e => a_okb po_X6 kI_X6 kL_X6 cX6_readClause 2 (some .boolean) false e.1 e.2) = true := by decide +kernel
set_option maxRecDepth 100000 in
theorem ob_Reader_readMove_0 : (tb_Reader_readMove.take 60).all (fun e => a_okb po_X6 kI_X6 kL_X6 cX6_readMove 2 (some .boolean) false e.1 e.2) = true := by decide +kernel
set_option maxRecDepth 100000 in
theorem ob_Reader_readMove_1 : ((tb_Reader_readMove.drop 60).take 60).all (fun e => a_okb po_X6 kI_X6 kL_X6 cX6_readMove 2 (some .boolean) false e.1 e.2) = true := by decide +kernel
set_option maxRecDepth 100000 in
theorem ob_Reader_readMove_2 : ((tb_Reader_readMove.drop 60).drop 60).all (fun e => a_okb po_X6 kI_X6 kL_X6 cX6_readMove 2 (some .boolean) false e.1 e.2) = true := by decide +kernel
theorem ob_Reader_readMove : tb_Reader_readMove.all (fun e => a_okb po_X6 kI_X6 kL_X6 cX6_readMove 2 (some .boolean) false e.1 e.2) = true := a_all2 60 ob_Reader_readMove_0 (a_all2 60 ob_Reader_readMove_1 (ob_Reader_readMove_2))
set_option maxRecDepth 100000 in
theorem ob_Reader_readLevel : tb_Reader_readLevel.all (fun e => a_okb po_X6 kI_X6 kL_X6 cX6_readLevel 6 (some .boolean) false e.1 e.2) = true := by decide +kernel
set_option maxRecDepth 100000 in
theorem ob_Reader_operationAt : tb_Reader_operationAt.all (fun e => a_okb po_X6 kI_X6 kL_X6 cX6_operationAt 2 (some .int) false e.1 e.2) = true := by decide +kernel
set_option maxRecDepth 100000 in
theorem ob_Reader_readPlain : tb_Reader_readPlain.all (fun e => a_okb po_X6 kI_X6 kL_X6 cX6_readPlain 4 (some .boolean) false e.1 e.2) = true := by decide +kernel
set_option maxRecDepth 100000 in
theorem ob_Reader_readComparison : tb_Reader_readComparison.all (fun e => a_okb po_X6 kI_X6 kL_X6 cX6_readComparison 3 (some .boolean) false e.1 e.2) = true := by decide +kernel
set_option maxRecDepth 100000 in
theorem ob_Reader_readWithin : tb_Reader_readWithin.all (fun e => a_okb po_X6 kI_X6 kL_X6 cX6_readWithin 4 (some .boolean) false e.1 e.2) = true := by decide +kernel
set_option maxRecDepth 100000 in
theorem ob_Reader_readPart : tb_Reader_readPart.all (fun e => a_okb po_X6 kI_X6 kL_X6 cX6_readPart 4 (some .boolean) false e.1 e.2) = true := by decide +kernel
set_option maxRecDepth 100000 in
theorem ob_Reader_fail : tb_Reader_fail.all (fun e => a_okb po_X6 kI_X6 kL_X6 cX6_fail 1 (some .boolean) false e.1 e.2) = true := by decide +kernel
set_option maxRecDepth 100000 in
theorem ob_Reader_take : tb_Reader_take.all (fun e => a_okb po_X6 kI_X6 kL_X6 cX6_take 2 (some .boolean) false e.1 e.2) = true := by decide +kernel
set_option maxRecDepth 100000 in
theorem ob_Reader_takeNumber : tb_Reader_takeNumber.all (fun e => a_okb po_X6 kI_X6 kL_X6 cX6_takeNumber 4 (some .boolean) false e.1 e.2) = true := by decide +kernel
set_option maxRecDepth 100000 in
theorem ob_Reader_advance_0 : (tb_Reader_advance.take 60).all (fun e => a_okb po_X6 kI_X6 kL_X6 cX6_advance 2 none false e.1 e.2) = true := by decide +kernel
set_option maxRecDepth 100000 in
theorem ob_Reader_advance_1 : (tb_Reader_advance.drop 60).all (fun e => a_okb po_X6 kI_X6 kL_X6 cX6_advance 2 none false e.1 e.2) = true := by decide +kernel
theorem ob_Reader_advance : tb_Reader_advance.all (fun e => a_okb po_X6 kI_X6 kL_X6 cX6_advance 2 none false e.1 e.2) = true := a_all2 60 ob_Reader_advance_0 (ob_Reader_advance_1)
set_option maxRecDepth 100000 in
theorem ob_Reader_wordBetween : tb_Reader_wordBetween.all (fun e => a_okb po_X6 kI_X6 kL_X6 cX6_wordBetween 8 (some .int) false e.1 e.2) = true := by decide +kernel
set_option maxRecDepth 100000 in
theorem ob_Scene_init : tb_Scene_init.all (fun e => a_okb po_X7 kI_X7 kL_X7 cX7_init 1 none true e.1 e.2) = true := by decide +kernel
set_option maxRecDepth 100000 in
theorem ob_Scene_has : tb_Scene_has.all (fun e => a_okb po_X7 kI_X7 kL_X7 cX7_has 2 (some .boolean) false e.1 e.2) = true := by decide +kernel
set_option maxRecDepth 100000 in
theorem ob_Scene_isOn : tb_Scene_isOn.all (fun e => a_okb po_X7 kI_X7 kL_X7 cX7_isOn 3 (some .boolean) false e.1 e.2) = true := by decide +kernel
set_option maxRecDepth 100000 in
theorem ob_Scene_depth : tb_Scene_depth.all (fun e => a_okb po_X7 kI_X7 kL_X7 cX7_depth 3 (some .int) false e.1 e.2) = true := by decide +kernel
set_option maxRecDepth 100000 in
theorem ob_Scene_onBits : tb_Scene_onBits.all (fun e => a_okb po_X7 kI_X7 kL_X7 cX7_onBits 4 (some .int) false e.1 e.2) = true := by decide +kernel
set_option maxRecDepth 100000 in
theorem ob_Scene_put : tb_Scene_put.all (fun e => a_okb po_X7 kI_X7 kL_X7 cX7_put 7 none false e.1 e.2) = true := by decide +kernel
set_option maxRecDepth 100000 in
theorem ob_Scene_stays : tb_Scene_stays.all (fun e => a_okb po_X7 kI_X7 kL_X7 cX7_stays 4 (some .boolean) false e.1 e.2) = true := by decide +kernel
set_option maxRecDepth 100000 in
theorem ob_Scene_toldCells : tb_Scene_toldCells.all (fun e => a_okb po_X7 kI_X7 kL_X7 cX7_toldCells 3 (some .int) false e.1 e.2) = true := by decide +kernel
set_option maxRecDepth 100000 in
theorem ob_Scene_takeFrom : tb_Scene_takeFrom.all (fun e => a_okb po_X7 kI_X7 kL_X7 cX7_takeFrom 2 none false e.1 e.2) = true := by decide +kernel
set_option maxRecDepth 100000 in
theorem ob_Script_init : tb_Script_init.all (fun e => a_okb po_X8 kI_X8 kL_X8 cX8_init 1 none true e.1 e.2) = true := by decide +kernel
set_option maxRecDepth 100000 in
theorem ob_Script_clear : tb_Script_clear.all (fun e => a_okb po_X8 kI_X8 kL_X8 cX8_clear 1 none false e.1 e.2) = true := by decide +kernel
set_option maxRecDepth 100000 in
theorem ob_Script_add : tb_Script_add.all (fun e => a_okb po_X8 kI_X8 kL_X8 cX8_add 3 none false e.1 e.2) = true := by decide +kernel
set_option maxRecDepth 100000 in
theorem ob_Script_jumpToHere : tb_Script_jumpToHere.all (fun e => a_okb po_X8 kI_X8 kL_X8 cX8_jumpToHere 2 none false e.1 e.2) = true := by decide +kernel
set_option maxRecDepth 100000 in
theorem ob_Script_startLaw : tb_Script_startLaw.all (fun e => a_okb po_X8 kI_X8 kL_X8 cX8_startLaw 2 none false e.1 e.2) = true := by decide +kernel
set_option maxRecDepth 100000 in
theorem ob_Script_startTest : tb_Script_startTest.all (fun e => a_okb po_X8 kI_X8 kL_X8 cX8_startTest 1 none false e.1 e.2) = true := by decide +kernel
set_option maxRecDepth 100000 in
theorem ob_Script_endLaw : tb_Script_endLaw.all (fun e => a_okb po_X8 kI_X8 kL_X8 cX8_endLaw 1 none false e.1 e.2) = true := by decide +kernel
set_option maxRecDepth 100000 in
theorem ob_Script_takeFrom : tb_Script_takeFrom.all (fun e => a_okb po_X8 kI_X8 kL_X8 cX8_takeFrom 2 none false e.1 e.2) = true := by decide +kernel
set_option maxRecDepth 100000 in
theorem ob_Target_init : tb_Target_init.all (fun e => a_okb po_X9 kI_X9 kL_X9 cX9_init 1 none true e.1 e.2) = true := by decide +kernel
set_option maxRecDepth 100000 in
theorem ob_Target_lookAt : tb_Target_lookAt.all (fun e => a_okb po_X9 kI_X9 kL_X9 cX9_lookAt 4 none false e.1 e.2) = true := by decide +kernel
set_option maxRecDepth 100000 in
theorem ob_Target_lookFrom : tb_Target_lookFrom.all (fun e => a_okb po_X9 kI_X9 kL_X9 cX9_lookFrom 7 none false e.1 e.2) = true := by decide +kernel
set_option maxRecDepth 100000 in
theorem ob_Cp_init : tb_Cp_init.all (fun e => a_okb po_X10 kI_X10 kL_X10 cX10_init 1 none true e.1 e.2) = true := by decide +kernel
set_option maxRecDepth 100000 in
theorem ob_Cp_figure : tb_Cp_figure.all (fun e => a_okb po_X10 kI_X10 kL_X10 cX10_figure 3 (some .int) false e.1 e.2) = true := by decide +kernel
set_option maxRecDepth 100000 in
theorem ob_Cp_sticks : tb_Cp_sticks.all (fun e => a_okb po_X10 kI_X10 kL_X10 cX10_sticks 4 (some .int) false e.1 e.2) = true := by decide +kernel
set_option maxRecDepth 100000 in
theorem ob_Cp_terms : tb_Cp_terms.all (fun e => a_okb po_X10 kI_X10 kL_X10 cX10_terms 4 (some .int) false e.1 e.2) = true := by decide +kernel
set_option maxRecDepth 100000 in
theorem ob_Cp_on : tb_Cp_on.all (fun e => a_okb po_X10 kI_X10 kL_X10 cX10_on 6 (some .int) false e.1 e.2) = true := by decide +kernel
set_option maxRecDepth 100000 in
theorem ob_Cp_off : tb_Cp_off.all (fun e => a_okb po_X10 kI_X10 kL_X10 cX10_off 4 (some .int) false e.1 e.2) = true := by decide +kernel
set_option maxRecDepth 100000 in
theorem ob_Cp_of : tb_Cp_of.all (fun e => a_okb po_X10 kI_X10 kL_X10 cX10_of 5 (some .int) false e.1 e.2) = true := by decide +kernel
set_option maxRecDepth 100000 in
theorem ob_Cp_feed : tb_Cp_feed.all (fun e => a_okb po_X10 kI_X10 kL_X10 cX10_feed 6 (some .int) false e.1 e.2) = true := by decide +kernel
set_option maxRecDepth 100000 in
theorem ob_Cp_end : tb_Cp_end.all (fun e => a_okb po_X10 kI_X10 kL_X10 cX10_end 2 (some .int) false e.1 e.2) = true := by decide +kernel
set_option maxRecDepth 100000 in
theorem ob_Cp_row : tb_Cp_row.all (fun e => a_okb po_X10 kI_X10 kL_X10 cX10_row 3 (some .int) false e.1 e.2) = true := by decide +kernel
set_option maxRecDepth 100000 in
theorem ob_Cp_torn : tb_Cp_torn.all (fun e => a_okb po_X10 kI_X10 kL_X10 cX10_torn 1 (some .int) false e.1 e.2) = true := by decide +kernel
set_option maxRecDepth 100000 in
theorem ob_Cp_outline : tb_Cp_outline.all (fun e => a_okb po_X10 kI_X10 kL_X10 cX10_outline 3 (some .int) false e.1 e.2) = true := by decide +kernel
set_option maxRecDepth 100000 in
theorem ob_Cp_play : tb_Cp_play.all (fun e => a_okb po_X10 kI_X10 kL_X10 cX10_play 2 (some .int) false e.1 e.2) = true := by decide +kernel
set_option maxRecDepth 100000 in
theorem ob_Cp_fault : tb_Cp_fault.all (fun e => a_okb po_X10 kI_X10 kL_X10 cX10_fault 1 (some .int) false e.1 e.2) = true := by decide +kernel
set_option maxRecDepth 100000 in
theorem ob_Cp_shadow : tb_Cp_shadow.all (fun e => a_okb po_X10 kI_X10 kL_X10 cX10_shadow 4 (some .int) false e.1 e.2) = true := by decide +kernel
set_option maxRecDepth 100000 in
theorem ob_Cp_seen : tb_Cp_seen.all (fun e => a_okb po_X10 kI_X10 kL_X10 cX10_seen 4 (some .int) false e.1 e.2) = true := by decide +kernel
set_option maxRecDepth 100000 in
theorem ob_Cp_common : tb_Cp_common.all (fun e => a_okb po_X10 kI_X10 kL_X10 cX10_common 4 (some .int) false e.1 e.2) = true := by decide +kernel
set_option maxRecDepth 100000 in
theorem ob_Cp_holds : tb_Cp_holds.all (fun e => a_okb po_X10 kI_X10 kL_X10 cX10_holds 4 (some .int) false e.1 e.2) = true := by decide +kernel
set_option maxRecDepth 100000 in
theorem ob_Cp_holdings : tb_Cp_holdings.all (fun e => a_okb po_X10 kI_X10 kL_X10 cX10_holdings 2 (some .int) false e.1 e.2) = true := by decide +kernel
set_option maxRecDepth 100000 in
theorem ob_Cp_least : tb_Cp_least.all (fun e => a_okb po_X10 kI_X10 kL_X10 cX10_least 2 (some .int) false e.1 e.2) = true := by decide +kernel
set_option maxRecDepth 100000 in
theorem ob_Cp_holder : tb_Cp_holder.all (fun e => a_okb po_X10 kI_X10 kL_X10 cX10_holder 3 (some .int) false e.1 e.2) = true := by decide +kernel
set_option maxRecDepth 100000 in
theorem ob_Cp_passed : tb_Cp_passed.all (fun e => a_okb po_X10 kI_X10 kL_X10 cX10_passed 2 (some .int) false e.1 e.2) = true := by decide +kernel
set_option maxRecDepth 100000 in
theorem ob_Cp_fewest : tb_Cp_fewest.all (fun e => a_okb po_X10 kI_X10 kL_X10 cX10_fewest 2 (some .int) false e.1 e.2) = true := by decide +kernel
set_option maxRecDepth 100000 in
theorem ob_Cp_barred : tb_Cp_barred.all (fun e => a_okb po_X10 kI_X10 kL_X10 cX10_barred 3 (some .int) false e.1 e.2) = true := by decide +kernel
set_option maxRecDepth 100000 in
theorem ob_Cp_made : tb_Cp_made.all (fun e => a_okb po_X10 kI_X10 kL_X10 cX10_made 3 (some .int) false e.1 e.2) = true := by decide +kernel
set_option maxRecDepth 100000 in
theorem ob_Cp_who : tb_Cp_who.all (fun e => a_okb po_X10 kI_X10 kL_X10 cX10_who 4 (some .int) false e.1 e.2) = true := by decide +kernel
set_option maxRecDepth 100000 in
theorem ob_Cp_sheet : tb_Cp_sheet.all (fun e => a_okb po_X10 kI_X10 kL_X10 cX10_sheet 2 (some .int) false e.1 e.2) = true := by decide +kernel
set_option maxRecDepth 100000 in
theorem ob_Cp_copy : tb_Cp_copy.all (fun e => a_okb po_X10 kI_X10 kL_X10 cX10_copy 3 (some .int) false e.1 e.2) = true := by decide +kernel
set_option maxRecDepth 100000 in
theorem ob_Cp_show : tb_Cp_show.all (fun e => a_okb po_X10 kI_X10 kL_X10 cX10_show 7 (some .int) false e.1 e.2) = true := by decide +kernel
set_option maxRecDepth 100000 in
theorem ob_Cp_slipped : tb_Cp_slipped.all (fun e => a_okb po_X10 kI_X10 kL_X10 cX10_slipped 2 (some .int) false e.1 e.2) = true := by decide +kernel
set_option maxRecDepth 100000 in
theorem ob_Cp_image : tb_Cp_image.all (fun e => a_okb po_X10 kI_X10 kL_X10 cX10_image 3 (some .int) false e.1 e.2) = true := by decide +kernel
set_option maxRecDepth 100000 in
theorem ob_Cp_back : tb_Cp_back.all (fun e => a_okb po_X10 kI_X10 kL_X10 cX10_back 3 (some .int) false e.1 e.2) = true := by decide +kernel
set_option maxRecDepth 100000 in
theorem ob_Cp_count : tb_Cp_count.all (fun e => a_okb po_X10 kI_X10 kL_X10 cX10_count 2 (some .int) false e.1 e.2) = true := by decide +kernel
set_option maxRecDepth 100000 in
theorem ob_Cp_status : tb_Cp_status.all (fun e => a_okb po_X10 kI_X10 kL_X10 cX10_status 1 (some .int) false e.1 e.2) = true := by decide +kernel
set_option maxRecDepth 100000 in
theorem ob_Cp_isBeat : tb_Cp_isBeat.all (fun e => a_okb po_X10 kI_X10 kL_X10 cX10_isBeat 1 (some .boolean) false e.1 e.2) = true := by decide +kernel
set_option maxRecDepth 100000 in
theorem ob_Cp_refuse : tb_Cp_refuse.all (fun e => a_okb po_X10 kI_X10 kL_X10 cX10_refuse 2 (some .int) false e.1 e.2) = true := by decide +kernel
set_option maxRecDepth 100000 in
theorem ob_Cp_accept : tb_Cp_accept.all (fun e => a_okb po_X10 kI_X10 kL_X10 cX10_accept 2 (some .int) false e.1 e.2) = true := by decide +kernel
set_option maxRecDepth 100000 in
theorem ob_Cp_changeHands : tb_Cp_changeHands.all (fun e => a_okb po_X10 kI_X10 kL_X10 cX10_changeHands 1 none false e.1 e.2) = true := by decide +kernel
set_option maxRecDepth 100000 in
theorem ob_Cp_changeCast : tb_Cp_changeCast.all (fun e => a_okb po_X10 kI_X10 kL_X10 cX10_changeCast 1 none false e.1 e.2) = true := by decide +kernel
set_option maxRecDepth 100000 in
theorem ob_Cp_canBeAsked : tb_Cp_canBeAsked.all (fun e => a_okb po_X10 kI_X10 kL_X10 cX10_canBeAsked 2 (some .boolean) false e.1 e.2) = true := by decide +kernel
set_option maxRecDepth 100000 in
theorem ob_Cp_writeWord : tb_Cp_writeWord.all (fun e => a_okb po_X10 kI_X10 kL_X10 cX10_writeWord 3 none false e.1 e.2) = true := by decide +kernel
set_option maxRecDepth 100000 in
theorem ob_Cp_takeOutline : tb_Cp_takeOutline.all (fun e => a_okb po_X10 kI_X10 kL_X10 cX10_takeOutline 5 (some .int) false e.1 e.2) = true := by decide +kernel
set_option maxRecDepth 100000 in
theorem ob_Cp_takeSheet : tb_Cp_takeSheet.all (fun e => a_okb po_X10 kI_X10 kL_X10 cX10_takeSheet 5 (some .int) false e.1 e.2) = true := by decide +kernel
set_option maxRecDepth 100000 in
theorem ob_Cp_countBeats : tb_Cp_countBeats.all (fun e => a_okb po_X10 kI_X10 kL_X10 cX10_countBeats 7 (some .int) false e.1 e.2) = true := by decide +kernel
set_option maxRecDepth 100000 in
theorem ob_Mo_init_0 : (tb_Mo_init.take 60).all (fun e => a_okb po_X11 kI_X11 kL_X11 cX11_init 1 none true e.1 e.2) = true := by decide +kernel
set_option maxRecDepth 100000 in
theorem ob_Mo_init_1 : ((tb_Mo_init.drop 60).take 60).all (fun e => a_okb po_X11 kI_X11 kL_X11 cX11_init 1 none true e.1 e.2) = true := by decide +kernel
set_option maxRecDepth 100000 in
theorem ob_Mo_init_2 : (((tb_Mo_init.drop 60).drop 60).take 60).all (fun e => a_okb po_X11 kI_X11 kL_X11 cX11_init 1 none true e.1 e.2) = true := by decide +kernel
set_option maxRecDepth 100000 in
theorem ob_Mo_init_3 : (((tb_Mo_init.drop 60).drop 60).drop 60).all (fun e => a_okb po_X11 kI_X11 kL_X11 cX11_init 1 none true e.1 e.2) = true := by decide +kernel
theorem ob_Mo_init : tb_Mo_init.all (fun e => a_okb po_X11 kI_X11 kL_X11 cX11_init 1 none true e.1 e.2) = true := a_all2 60 ob_Mo_init_0 (a_all2 60 ob_Mo_init_1 (a_all2 60 ob_Mo_init_2 (ob_Mo_init_3)))
set_option maxRecDepth 100000 in
theorem ob_Mo_in : tb_Mo_in.all (fun e => a_okb po_X11 kI_X11 kL_X11 cX11_in 6 (some .boolean) false e.1 e.2) = true := by decide +kernel
set_option maxRecDepth 100000 in
theorem ob_Mo_is : tb_Mo_is.all (fun e => a_okb po_X11 kI_X11 kL_X11 cX11_is 2 (some .boolean) false e.1 e.2) = true := by decide +kernel
set_option maxRecDepth 100000 in
theorem ob_Mo_tell : tb_Mo_tell.all (fun e => a_okb po_X11 kI_X11 kL_X11 cX11_tell 2 (some .int) false e.1 e.2) = true := by decide +kernel
set_option maxRecDepth 100000 in
theorem ob_Mo_was : tb_Mo_was.all (fun e => a_okb po_X11 kI_X11 kL_X11 cX11_was 2 (some .int) false e.1 e.2) = true := by decide +kernel
set_option maxRecDepth 100000 in
theorem ob_Mo_change : tb_Mo_change.all (fun e => a_okb po_X11 kI_X11 kL_X11 cX11_change 4 (some .int) false e.1 e.2) = true := by decide +kernel
set_option maxRecDepth 100000 in
theorem ob_Mo_image : tb_Mo_image.all (fun e => a_okb po_X11 kI_X11 kL_X11 cX11_image 3 (some .int) false e.1 e.2) = true := by decide +kernel
set_option maxRecDepth 100000 in
theorem ob_Mo_back : tb_Mo_back.all (fun e => a_okb po_X11 kI_X11 kL_X11 cX11_back 3 (some .int) false e.1 e.2) = true := by decide +kernel
set_option maxRecDepth 100000 in
theorem ob_Mo_isFigure : tb_Mo_isFigure.all (fun e => a_okb po_X11 kI_X11 kL_X11 cX11_isFigure 2 (some .boolean) false e.1 e.2) = true := by decide +kernel
set_option maxRecDepth 100000 in
theorem ob_Mo_isBeat : tb_Mo_isBeat.all (fun e => a_okb po_X11 kI_X11 kL_X11 cX11_isBeat 1 (some .boolean) false e.1 e.2) = true := by decide +kernel
set_option maxRecDepth 100000 in
theorem ob_Mo_term : tb_Mo_term.all (fun e => a_okb po_X11 kI_X11 kL_X11 cX11_term 2 (some .int) false e.1 e.2) = true := by decide +kernel
set_option maxRecDepth 100000 in
theorem ob_Mo_placeOf : tb_Mo_placeOf.all (fun e => a_okb po_X11 kI_X11 kL_X11 cX11_placeOf 4 (some .int) false e.1 e.2) = true := by decide +kernel
set_option maxRecDepth 100000 in
theorem ob_Mo_isOn : tb_Mo_isOn.all (fun e => a_okb po_X11 kI_X11 kL_X11 cX11_isOn 3 (some .boolean) false e.1 e.2) = true := by decide +kernel
set_option maxRecDepth 100000 in
theorem ob_Mo_deepOf : tb_Mo_deepOf.all (fun e => a_okb po_X11 kI_X11 kL_X11 cX11_deepOf 4 (some .int) false e.1 e.2) = true := by decide +kernel
set_option maxRecDepth 100000 in
theorem ob_Mo_figure : tb_Mo_figure.all (fun e => a_okb po_X11 kI_X11 kL_X11 cX11_figure 3 (some .int) false e.1 e.2) = true := by decide +kernel
set_option maxRecDepth 100000 in
theorem ob_Mo_sticks : tb_Mo_sticks.all (fun e => a_okb po_X11 kI_X11 kL_X11 cX11_sticks 3 (some .int) false e.1 e.2) = true := by decide +kernel
set_option maxRecDepth 100000 in
theorem ob_Mo_isTerm : tb_Mo_isTerm.all (fun e => a_okb po_X11 kI_X11 kL_X11 cX11_isTerm 2 (some .boolean) false e.1 e.2) = true := by decide +kernel
set_option maxRecDepth 100000 in
theorem ob_Mo_terms : tb_Mo_terms.all (fun e => a_okb po_X11 kI_X11 kL_X11 cX11_terms 3 (some .int) false e.1 e.2) = true := by decide +kernel
set_option maxRecDepth 100000 in
theorem ob_Mo_put : tb_Mo_put.all (fun e => a_okb po_X11 kI_X11 kL_X11 cX11_put 8 none false e.1 e.2) = true := by decide +kernel
set_option maxRecDepth 100000 in
theorem ob_Mo_on : tb_Mo_on.all (fun e => a_okb po_X11 kI_X11 kL_X11 cX11_on 6 (some .int) false e.1 e.2) = true := by decide +kernel
set_option maxRecDepth 100000 in
theorem ob_Mo_off : tb_Mo_off.all (fun e => a_okb po_X11 kI_X11 kL_X11 cX11_off 4 (some .int) false e.1 e.2) = true := by decide +kernel
set_option maxRecDepth 100000 in
theorem ob_Mo_of : tb_Mo_of.all (fun e => a_okb po_X11 kI_X11 kL_X11 cX11_of 4 (some .int) false e.1 e.2) = true := by decide +kernel
set_option maxRecDepth 100000 in
theorem ob_Mo_bits : tb_Mo_bits.all (fun e => a_okb po_X11 kI_X11 kL_X11 cX11_bits 3 (some .int) false e.1 e.2) = true := by decide +kernel
set_option maxRecDepth 100000 in
theorem ob_Mo_row_0 : (tb_Mo_row.take 60).all (fun e => a_okb po_X11 kI_X11 kL_X11 cX11_row 7 (some .int) false e.1 e.2) = true := by decide +kernel
set_option maxRecDepth 100000 in
theorem ob_Mo_row_1 : ((tb_Mo_row.drop 60).take 60).all (fun e => a_okb po_X11 kI_X11 kL_X11 cX11_row 7 (some .int) false e.1 e.2) = true := by decide +kernel
set_option maxRecDepth 100000 in
theorem ob_Mo_row_2 : ((tb_Mo_row.drop 60).drop 60).all (fun e => a_okb po_X11 kI_X11 kL_X11 cX11_row 7 (some .int) false e.1 e.2) = true := by decide +kernel
theorem ob_Mo_row : tb_Mo_row.all (fun e => a_okb po_X11 kI_X11 kL_X11 cX11_row 7 (some .int) false e.1 e.2) = true := a_all2 60 ob_Mo_row_0 (a_all2 60 ob_Mo_row_1 (ob_Mo_row_2))
set_option maxRecDepth 100000 in
theorem ob_Mo_torn : tb_Mo_torn.all (fun e => a_okb po_X11 kI_X11 kL_X11 cX11_torn 1 (some .int) false e.1 e.2) = true := by decide +kernel
set_option maxRecDepth 100000 in
theorem ob_Mo_outline : tb_Mo_outline.all (fun e => a_okb po_X11 kI_X11 kL_X11 cX11_outline 3 (some .int) false e.1 e.2) = true := by decide +kernel
set_option maxRecDepth 100000 in
theorem ob_Mo_sheet : tb_Mo_sheet.all (fun e => a_okb po_X11 kI_X11 kL_X11 cX11_sheet 2 (some .int) false e.1 e.2) = true := by decide +kernel
set_option maxRecDepth 100000 in
theorem ob_Mo_four : tb_Mo_four.all (fun e => a_okb po_X11 kI_X11 kL_X11 cX11_four 3 none false e.1 e.2) = true := by decide +kernel
set_option maxRecDepth 100000 in
theorem ob_Mo_feed : tb_Mo_feed.all (fun e => a_okb po_X11 kI_X11 kL_X11 cX11_feed 6 (some .int) false e.1 e.2) = true := by decide +kernel
set_option maxRecDepth 100000 in
theorem ob_Mo_end : tb_Mo_end.all (fun e => a_okb po_X11 kI_X11 kL_X11 cX11_end 2 (some .int) false e.1 e.2) = true := by decide +kernel
set_option maxRecDepth 100000 in
theorem ob_Mo_isSmall : tb_Mo_isSmall.all (fun e => a_okb po_X11 kI_X11 kL_X11 cX11_isSmall 1 (some .boolean) false e.1 e.2) = true := by decide +kernel
set_option maxRecDepth 100000 in
theorem ob_Mo_isDigit : tb_Mo_isDigit.all (fun e => a_okb po_X11 kI_X11 kL_X11 cX11_isDigit 1 (some .boolean) false e.1 e.2) = true := by decide +kernel
set_option maxRecDepth 100000 in
theorem ob_Mo_begin : tb_Mo_begin.all (fun e => a_okb po_X11 kI_X11 kL_X11 cX11_begin 1 none false e.1 e.2) = true := by decide +kernel
set_option maxRecDepth 100000 in
theorem ob_Mo_next_0 : (tb_Mo_next.take 60).all (fun e => a_okb po_X11 kI_X11 kL_X11 cX11_next 1 none false e.1 e.2) = true := by decide +kernel
set_option maxRecDepth 100000 in
theorem ob_Mo_next_1 : ((tb_Mo_next.drop 60).take 60).all (fun e => a_okb po_X11 kI_X11 kL_X11 cX11_next 1 none false e.1 e.2) = true := by decide +kernel
set_option maxRecDepth 100000 in
theorem ob_Mo_next_2 : ((tb_Mo_next.drop 60).drop 60).all (fun e => a_okb po_X11 kI_X11 kL_X11 cX11_next 1 none false e.1 e.2) = true := by decide +kernel
theorem ob_Mo_next : tb_Mo_next.all (fun e => a_okb po_X11 kI_X11 kL_X11 cX11_next 1 none false e.1 e.2) = true := a_all2 60 ob_Mo_next_0 (a_all2 60 ob_Mo_next_1 (ob_Mo_next_2))
set_option maxRecDepth 100000 in
theorem ob_Mo_isWord : tb_Mo_isWord.all (fun e => a_okb po_X11 kI_X11 kL_X11 cX11_isWord 3 (some .boolean) false e.1 e.2) = true := by decide +kernel
set_option maxRecDepth 100000 in
theorem ob_Mo_isSign : tb_Mo_isSign.all (fun e => a_okb po_X11 kI_X11 kL_X11 cX11_isSign 2 (some .boolean) false e.1 e.2) = true := by decide +kernel
set_option maxRecDepth 100000 in
theorem ob_Mo_must : tb_Mo_must.all (fun e => a_okb po_X11 kI_X11 kL_X11 cX11_must 2 none false e.1 e.2) = true := by decide +kernel
set_option maxRecDepth 100000 in
theorem ob_Mo_number : tb_Mo_number.all (fun e => a_okb po_X11 kI_X11 kL_X11 cX11_number 6 (some .int) false e.1 e.2) = true := by decide +kernel
set_option maxRecDepth 100000 in
theorem ob_Mo_fault : tb_Mo_fault.all (fun e => a_okb po_X11 kI_X11 kL_X11 cX11_fault 1 (some .int) false e.1 e.2) = true := by decide +kernel
set_option maxRecDepth 100000 in
theorem ob_Mo_emit : tb_Mo_emit.all (fun e => a_okb po_X11 kI_X11 kL_X11 cX11_emit 3 none false e.1 e.2) = true := by decide +kernel
set_option maxRecDepth 100000 in
theorem ob_Mo_push : tb_Mo_push.all (fun e => a_okb po_X11 kI_X11 kL_X11 cX11_push 3 none false e.1 e.2) = true := by decide +kernel
set_option maxRecDepth 100000 in
theorem ob_Mo_binds : tb_Mo_binds.all (fun e => a_okb po_X11 kI_X11 kL_X11 cX11_binds 1 (some .int) false e.1 e.2) = true := by decide +kernel
set_option maxRecDepth 100000 in
theorem ob_Mo_settle : tb_Mo_settle.all (fun e => a_okb po_X11 kI_X11 kL_X11 cX11_settle 2 none false e.1 e.2) = true := by decide +kernel
set_option maxRecDepth 100000 in
theorem ob_Mo_inner : tb_Mo_inner.all (fun e => a_okb po_X11 kI_X11 kL_X11 cX11_inner 3 (some .int) false e.1 e.2) = true := by decide +kernel
set_option maxRecDepth 100000 in
theorem ob_Mo_isCompared : tb_Mo_isCompared.all (fun e => a_okb po_X11 kI_X11 kL_X11 cX11_isCompared 2 (some .boolean) false e.1 e.2) = true := by decide +kernel
set_option maxRecDepth 100000 in
theorem ob_Mo_partAt : tb_Mo_partAt.all (fun e => a_okb po_X11 kI_X11 kL_X11 cX11_partAt 3 (some .int) false e.1 e.2) = true := by decide +kernel
set_option maxRecDepth 100000 in
theorem ob_Mo_openBracket : tb_Mo_openBracket.all (fun e => a_okb po_X11 kI_X11 kL_X11 cX11_openBracket 2 none false e.1 e.2) = true := by decide +kernel
set_option maxRecDepth 100000 in
theorem ob_Mo_leaf : tb_Mo_leaf.all (fun e => a_okb po_X11 kI_X11 kL_X11 cX11_leaf 4 none false e.1 e.2) = true := by decide +kernel
set_option maxRecDepth 100000 in
theorem ob_Mo_readPart : tb_Mo_readPart.all (fun e => a_okb po_X11 kI_X11 kL_X11 cX11_readPart 3 (some .int) false e.1 e.2) = true := by decide +kernel
set_option maxRecDepth 100000 in
theorem ob_Mo_readPlain : tb_Mo_readPlain.all (fun e => a_okb po_X11 kI_X11 kL_X11 cX11_readPlain 1 (some .int) false e.1 e.2) = true := by decide +kernel
set_option maxRecDepth 100000 in
theorem ob_Mo_behindSum_0 : (tb_Mo_behindSum.take 60).all (fun e => a_okb po_X11 kI_X11 kL_X11 cX11_behindSum 4 (some .int) false e.1 e.2) = true := by decide +kernel
set_option maxRecDepth 100000 in
theorem ob_Mo_behindSum_1 : ((tb_Mo_behindSum.drop 60).take 60).all (fun e => a_okb po_X11 kI_X11 kL_X11 cX11_behindSum 4 (some .int) false e.1 e.2) = true := by decide +kernel
set_option maxRecDepth 100000 in
theorem ob_Mo_behindSum_2 : ((tb_Mo_behindSum.drop 60).drop 60).all (fun e => a_okb po_X11 kI_X11 kL_X11 cX11_behindSum 4 (some .int) false e.1 e.2) = true := by decide +kernel
theorem ob_Mo_behindSum : tb_Mo_behindSum.all (fun e => a_okb po_X11 kI_X11 kL_X11 cX11_behindSum 4 (some .int) false e.1 e.2) = true := a_all2 60 ob_Mo_behindSum_0 (a_all2 60 ob_Mo_behindSum_1 (ob_Mo_behindSum_2))
set_option maxRecDepth 100000 in
theorem ob_Mo_behindTest : tb_Mo_behindTest.all (fun e => a_okb po_X11 kI_X11 kL_X11 cX11_behindTest 2 (some .int) false e.1 e.2) = true := by decide +kernel
set_option maxRecDepth 100000 in
theorem ob_Mo_readExpression : tb_Mo_readExpression.all (fun e => a_okb po_X11 kI_X11 kL_X11 cX11_readExpression 3 none false e.1 e.2) = true := by decide +kernel
set_option maxRecDepth 100000 in
theorem ob_Mo_readBeat_0 : (tb_Mo_readBeat.take 60).all (fun e => a_okb po_X11 kI_X11 kL_X11 cX11_readBeat 9 none false e.1 e.2) = true := by decide +kernel
set_option maxRecDepth 100000 in
theorem ob_Mo_readBeat_1 : ((tb_Mo_readBeat.drop 60).take 60).all (fun e => a_okb po_X11 kI_X11 kL_X11 cX11_readBeat 9 none false e.1 e.2) = true := by decide +kernel
set_option maxRecDepth 100000 in
theorem ob_Mo_readBeat_2 : ((tb_Mo_readBeat.drop 60).drop 60).all (fun e => a_okb po_X11 kI_X11 kL_X11 cX11_readBeat 9 none false e.1 e.2) = true := by decide +kernel
theorem ob_Mo_readBeat : tb_Mo_readBeat.all (fun e => a_okb po_X11 kI_X11 kL_X11 cX11_readBeat 9 none false e.1 e.2) = true := a_all2 60 ob_Mo_readBeat_0 (a_all2 60 ob_Mo_readBeat_1 (ob_Mo_readBeat_2))
set_option maxRecDepth 100000 in
theorem ob_Mo_readClause_0 : (tb_Mo_readClause.take 60).all (fun e => a_okb po_X11 kI_X11 kL_X11 cX11_readClause 5 none false e.1 e.2) = true := by decide +kernel
set_option maxRecDepth 100000 in
theorem ob_Mo_readClause_1 : ((tb_Mo_readClause.drop 60).take 60).all (fun e => a_okb po_X11 kI_X11 kL_X11 cX11_readClause 5 none false e.1 e.2) = true := by decide +kernel
set_option maxRecDepth 100000 in
theorem ob_Mo_readClause_2 : ((tb_Mo_readClause.drop 60).drop 60).all (fun e => a_okb po_X11 kI_X11 kL_X11 cX11_readClause 5 none false e.1 e.2) = true := by decide +kernel
theorem ob_Mo_readClause : tb_Mo_readClause.all (fun e => a_okb po_X11 kI_X11 kL_X11 cX11_readClause 5 none false e.1 e.2) = true := a_all2 60 ob_Mo_readClause_0 (a_all2 60 ob_Mo_readClause_1 (ob_Mo_readClause_2))
set_option maxRecDepth 100000 in
theorem ob_Mo_play_0 : (tb_Mo_play.take 60).all (fun e => a_okb po_X11 kI_X11 kL_X11 cX11_play 3 (some .int) false e.1 e.2) = true := by decide +kernel
set_option maxRecDepth 100000 in
theorem ob_Mo_play_1 : ((tb_Mo_play.drop 60).take 60).all (fun e => a_okb po_X11 kI_X11 kL_X11 cX11_play 3 (some .int) false e.1 e.2) = true := by decide +kernel
set_option maxRecDepth 100000 in
theorem ob_Mo_play_2 : (((tb_Mo_play.drop 60).drop 60).take 60).all (fun e => a_okb po_X11 kI_X11 kL_X11 cX11_play 3 (some .int) false e.1 e.2) = true := by decide +kernel
set_option maxRecDepth 100000 in
theorem ob_Mo_play_3 : (((tb_Mo_play.drop 60).drop 60).drop 60).all (fun e => a_okb po_X11 kI_X11 kL_X11 cX11_play 3 (some .int) false e.1 e.2) = true := by decide +kernel
theorem ob_Mo_play : tb_Mo_play.all (fun e => a_okb po_X11 kI_X11 kL_X11 cX11_play 3 (some .int) false e.1 e.2) = true := a_all2 60 ob_Mo_play_0 (a_all2 60 ob_Mo_play_1 (a_all2 60 ob_Mo_play_2 (ob_Mo_play_3)))
set_option maxRecDepth 100000 in
theorem ob_Mo_reckon : tb_Mo_reckon.all (fun e => a_okb po_X11 kI_X11 kL_X11 cX11_reckon 6 (some .long) false e.1 e.2) = true := by decide +kernel
set_option maxRecDepth 100000 in
theorem ob_Mo_reckonAll_0 : (tb_Mo_reckonAll.take 60).all (fun e => a_okb po_X11 kI_X11 kL_X11 cX11_reckonAll 7 none false e.1 e.2) = true := by decide +kernel
set_option maxRecDepth 100000 in
theorem ob_Mo_reckonAll_1 : ((tb_Mo_reckonAll.drop 60).take 60).all (fun e => a_okb po_X11 kI_X11 kL_X11 cX11_reckonAll 7 none false e.1 e.2) = true := by decide +kernel
set_option maxRecDepth 100000 in
theorem ob_Mo_reckonAll_2 : ((tb_Mo_reckonAll.drop 60).drop 60).all (fun e => a_okb po_X11 kI_X11 kL_X11 cX11_reckonAll 7 none false e.1 e.2) = true := by decide +kernel
theorem ob_Mo_reckonAll : tb_Mo_reckonAll.all (fun e => a_okb po_X11 kI_X11 kL_X11 cX11_reckonAll 7 none false e.1 e.2) = true := a_all2 60 ob_Mo_reckonAll_0 (a_all2 60 ob_Mo_reckonAll_1 (ob_Mo_reckonAll_2))
set_option maxRecDepth 100000 in
theorem ob_Mo_isSo : tb_Mo_isSo.all (fun e => a_okb po_X11 kI_X11 kL_X11 cX11_isSo 2 (some .boolean) false e.1 e.2) = true := by decide +kernel
set_option maxRecDepth 100000 in
theorem ob_Mo_tells_0 : (tb_Mo_tells.take 60).all (fun e => a_okb po_X11 kI_X11 kL_X11 cX11_tells 12 (some .int) false e.1 e.2) = true := by decide +kernel
set_option maxRecDepth 100000 in
theorem ob_Mo_tells_1 : ((tb_Mo_tells.drop 60).take 60).all (fun e => a_okb po_X11 kI_X11 kL_X11 cX11_tells 12 (some .int) false e.1 e.2) = true := by decide +kernel
set_option maxRecDepth 100000 in
theorem ob_Mo_tells_2 : ((tb_Mo_tells.drop 60).drop 60).all (fun e => a_okb po_X11 kI_X11 kL_X11 cX11_tells 12 (some .int) false e.1 e.2) = true := by decide +kernel
theorem ob_Mo_tells : tb_Mo_tells.all (fun e => a_okb po_X11 kI_X11 kL_X11 cX11_tells 12 (some .int) false e.1 e.2) = true := a_all2 60 ob_Mo_tells_0 (a_all2 60 ob_Mo_tells_1 (ob_Mo_tells_2))
set_option maxRecDepth 100000 in
theorem ob_Mo_shadowRow : tb_Mo_shadowRow.all (fun e => a_okb po_X11 kI_X11 kL_X11 cX11_shadowRow 9 (some .int) false e.1 e.2) = true := by decide +kernel
set_option maxRecDepth 100000 in
theorem ob_Mo_allRow : tb_Mo_allRow.all (fun e => a_okb po_X11 kI_X11 kL_X11 cX11_allRow 5 (some .int) false e.1 e.2) = true := by decide +kernel
set_option maxRecDepth 100000 in
theorem ob_Mo_shadow : tb_Mo_shadow.all (fun e => a_okb po_X11 kI_X11 kL_X11 cX11_shadow 4 (some .int) false e.1 e.2) = true := by decide +kernel
set_option maxRecDepth 100000 in
theorem ob_Mo_seen_0 : (tb_Mo_seen.take 60).all (fun e => a_okb po_X11 kI_X11 kL_X11 cX11_seen 10 (some .int) false e.1 e.2) = true := by decide +kernel
set_option maxRecDepth 100000 in
theorem ob_Mo_seen_1 : ((tb_Mo_seen.drop 60).take 60).all (fun e => a_okb po_X11 kI_X11 kL_X11 cX11_seen 10 (some .int) false e.1 e.2) = true := by decide +kernel
set_option maxRecDepth 100000 in
theorem ob_Mo_seen_2 : ((tb_Mo_seen.drop 60).drop 60).all (fun e => a_okb po_X11 kI_X11 kL_X11 cX11_seen 10 (some .int) false e.1 e.2) = true := by decide +kernel
theorem ob_Mo_seen : tb_Mo_seen.all (fun e => a_okb po_X11 kI_X11 kL_X11 cX11_seen 10 (some .int) false e.1 e.2) = true := a_all2 60 ob_Mo_seen_0 (a_all2 60 ob_Mo_seen_1 (ob_Mo_seen_2))
set_option maxRecDepth 100000 in
theorem ob_Mo_common : tb_Mo_common.all (fun e => a_okb po_X11 kI_X11 kL_X11 cX11_common 6 (some .int) false e.1 e.2) = true := by decide +kernel
set_option maxRecDepth 100000 in
theorem ob_Mo_copy : tb_Mo_copy.all (fun e => a_okb po_X11 kI_X11 kL_X11 cX11_copy 4 (some .int) false e.1 e.2) = true := by decide +kernel
set_option maxRecDepth 100000 in
theorem ob_Mo_canHold_0 : (tb_Mo_canHold.take 60).all (fun e => a_okb po_X11 kI_X11 kL_X11 cX11_canHold 8 (some .boolean) false e.1 e.2) = true := by decide +kernel
set_option maxRecDepth 100000 in
theorem ob_Mo_canHold_1 : ((tb_Mo_canHold.drop 60).take 60).all (fun e => a_okb po_X11 kI_X11 kL_X11 cX11_canHold 8 (some .boolean) false e.1 e.2) = true := by decide +kernel
set_option maxRecDepth 100000 in
theorem ob_Mo_canHold_2 : ((tb_Mo_canHold.drop 60).drop 60).all (fun e => a_okb po_X11 kI_X11 kL_X11 cX11_canHold 8 (some .boolean) false e.1 e.2) = true := by decide +kernel
theorem ob_Mo_canHold : tb_Mo_canHold.all (fun e => a_okb po_X11 kI_X11 kL_X11 cX11_canHold 8 (some .boolean) false e.1 e.2) = true := a_all2 60 ob_Mo_canHold_0 (a_all2 60 ob_Mo_canHold_1 (ob_Mo_canHold_2))
set_option maxRecDepth 100000 in
theorem ob_Mo_isNear : tb_Mo_isNear.all (fun e => a_okb po_X11 kI_X11 kL_X11 cX11_isNear 6 (some .boolean) false e.1 e.2) = true := by decide +kernel
set_option maxRecDepth 100000 in
theorem ob_Mo_isStill : tb_Mo_isStill.all (fun e => a_okb po_X11 kI_X11 kL_X11 cX11_isStill 5 (some .boolean) false e.1 e.2) = true := by decide +kernel
set_option maxRecDepth 100000 in
theorem ob_Mo_onBits : tb_Mo_onBits.all (fun e => a_okb po_X11 kI_X11 kL_X11 cX11_onBits 4 (some .int) false e.1 e.2) = true := by decide +kernel
set_option maxRecDepth 100000 in
theorem ob_Mo_holds : tb_Mo_holds.all (fun e => a_okb po_X11 kI_X11 kL_X11 cX11_holds 4 (some .int) false e.1 e.2) = true := by decide +kernel
set_option maxRecDepth 100000 in
theorem ob_Mo_findCan : tb_Mo_findCan.all (fun e => a_okb po_X11 kI_X11 kL_X11 cX11_findCan 5 none false e.1 e.2) = true := by decide +kernel
set_option maxRecDepth 100000 in
theorem ob_Mo_holderIn : tb_Mo_holderIn.all (fun e => a_okb po_X11 kI_X11 kL_X11 cX11_holderIn 2 (some .int) false e.1 e.2) = true := by decide +kernel
set_option maxRecDepth 100000 in
theorem ob_Mo_isHolding : tb_Mo_isHolding.all (fun e => a_okb po_X11 kI_X11 kL_X11 cX11_isHolding 10 (some .boolean) false e.1 e.2) = true := by decide +kernel
set_option maxRecDepth 100000 in
theorem ob_Mo_holdingsOf : tb_Mo_holdingsOf.all (fun e => a_okb po_X11 kI_X11 kL_X11 cX11_holdingsOf 6 (some .int) false e.1 e.2) = true := by decide +kernel
set_option maxRecDepth 100000 in
theorem ob_Mo_holdings : tb_Mo_holdings.all (fun e => a_okb po_X11 kI_X11 kL_X11 cX11_holdings 2 (some .int) false e.1 e.2) = true := by decide +kernel
set_option maxRecDepth 100000 in
theorem ob_Mo_findLeast : tb_Mo_findLeast.all (fun e => a_okb po_X11 kI_X11 kL_X11 cX11_findLeast 4 none false e.1 e.2) = true := by decide +kernel
set_option maxRecDepth 100000 in
theorem ob_Mo_reckonBeat_0 : (tb_Mo_reckonBeat.take 60).all (fun e => a_okb po_X11 kI_X11 kL_X11 cX11_reckonBeat 5 none false e.1 e.2) = true := by decide +kernel
set_option maxRecDepth 100000 in
theorem ob_Mo_reckonBeat_1 : ((tb_Mo_reckonBeat.drop 60).take 60).all (fun e => a_okb po_X11 kI_X11 kL_X11 cX11_reckonBeat 5 none false e.1 e.2) = true := by decide +kernel
set_option maxRecDepth 100000 in
theorem ob_Mo_reckonBeat_2 : ((tb_Mo_reckonBeat.drop 60).drop 60).all (fun e => a_okb po_X11 kI_X11 kL_X11 cX11_reckonBeat 5 none false e.1 e.2) = true := by decide +kernel
theorem ob_Mo_reckonBeat : tb_Mo_reckonBeat.all (fun e => a_okb po_X11 kI_X11 kL_X11 cX11_reckonBeat 5 none false e.1 e.2) = true := a_all2 60 ob_Mo_reckonBeat_0 (a_all2 60 ob_Mo_reckonBeat_1 (ob_Mo_reckonBeat_2))
set_option maxRecDepth 100000 in
theorem ob_Mo_backFigure_0 : (tb_Mo_backFigure.take 60).all (fun e => a_okb po_X11 kI_X11 kL_X11 cX11_backFigure 14 none false e.1 e.2) = true := by decide +kernel
set_option maxRecDepth 100000 in
theorem ob_Mo_backFigure_1 : ((tb_Mo_backFigure.drop 60).take 60).all (fun e => a_okb po_X11 kI_X11 kL_X11 cX11_backFigure 14 none false e.1 e.2) = true := by decide +kernel
set_option maxRecDepth 100000 in
theorem ob_Mo_backFigure_2 : ((tb_Mo_backFigure.drop 60).drop 60).all (fun e => a_okb po_X11 kI_X11 kL_X11 cX11_backFigure 14 none false e.1 e.2) = true := by decide +kernel
theorem ob_Mo_backFigure : tb_Mo_backFigure.all (fun e => a_okb po_X11 kI_X11 kL_X11 cX11_backFigure 14 none false e.1 e.2) = true := a_all2 60 ob_Mo_backFigure_0 (a_all2 60 ob_Mo_backFigure_1 (ob_Mo_backFigure_2))
set_option maxRecDepth 100000 in
theorem ob_Mo_passedBetween : tb_Mo_passedBetween.all (fun e => a_okb po_X11 kI_X11 kL_X11 cX11_passedBetween 8 (some .int) false e.1 e.2) = true := by decide +kernel
set_option maxRecDepth 100000 in
theorem ob_Mo_findFirst : tb_Mo_findFirst.all (fun e => a_okb po_X11 kI_X11 kL_X11 cX11_findFirst 6 none false e.1 e.2) = true := by decide +kernel
set_option maxRecDepth 100000 in
theorem ob_Mo_least : tb_Mo_least.all (fun e => a_okb po_X11 kI_X11 kL_X11 cX11_least 2 (some .int) false e.1 e.2) = true := by decide +kernel
set_option maxRecDepth 100000 in
theorem ob_Mo_holder : tb_Mo_holder.all (fun e => a_okb po_X11 kI_X11 kL_X11 cX11_holder 3 (some .int) false e.1 e.2) = true := by decide +kernel
set_option maxRecDepth 100000 in
theorem ob_Mo_passed : tb_Mo_passed.all (fun e => a_okb po_X11 kI_X11 kL_X11 cX11_passed 4 (some .int) false e.1 e.2) = true := by decide +kernel
set_option maxRecDepth 100000 in
theorem ob_Mo_fewest : tb_Mo_fewest.all (fun e => a_okb po_X11 kI_X11 kL_X11 cX11_fewest 4 (some .int) false e.1 e.2) = true := by decide +kernel
set_option maxRecDepth 100000 in
theorem ob_Mo_barred : tb_Mo_barred.all (fun e => a_okb po_X11 kI_X11 kL_X11 cX11_barred 5 (some .int) false e.1 e.2) = true := by decide +kernel
set_option maxRecDepth 100000 in
theorem ob_Mo_findCells : tb_Mo_findCells.all (fun e => a_okb po_X11 kI_X11 kL_X11 cX11_findCells 3 (some .boolean) false e.1 e.2) = true := by decide +kernel
set_option maxRecDepth 100000 in
theorem ob_Mo_findShadows : tb_Mo_findShadows.all (fun e => a_okb po_X11 kI_X11 kL_X11 cX11_findShadows 6 none false e.1 e.2) = true := by decide +kernel
set_option maxRecDepth 100000 in
theorem ob_Mo_tryPlace_0 : (tb_Mo_tryPlace.take 60).all (fun e => a_okb po_X11 kI_X11 kL_X11 cX11_tryPlace 11 none false e.1 e.2) = true := by decide +kernel
set_option maxRecDepth 100000 in
theorem ob_Mo_tryPlace_1 : ((tb_Mo_tryPlace.drop 60).take 60).all (fun e => a_okb po_X11 kI_X11 kL_X11 cX11_tryPlace 11 none false e.1 e.2) = true := by decide +kernel
set_option maxRecDepth 100000 in
theorem ob_Mo_tryPlace_2 : (((tb_Mo_tryPlace.drop 60).drop 60).take 60).all (fun e => a_okb po_X11 kI_X11 kL_X11 cX11_tryPlace 11 none false e.1 e.2) = true := by decide +kernel
set_option maxRecDepth 100000 in
theorem ob_Mo_tryPlace_3 : (((tb_Mo_tryPlace.drop 60).drop 60).drop 60).all (fun e => a_okb po_X11 kI_X11 kL_X11 cX11_tryPlace 11 none false e.1 e.2) = true := by decide +kernel
theorem ob_Mo_tryPlace : tb_Mo_tryPlace.all (fun e => a_okb po_X11 kI_X11 kL_X11 cX11_tryPlace 11 none false e.1 e.2) = true := a_all2 60 ob_Mo_tryPlace_0 (a_all2 60 ob_Mo_tryPlace_1 (a_all2 60 ob_Mo_tryPlace_2 (ob_Mo_tryPlace_3)))
set_option maxRecDepth 100000 in
theorem ob_Mo_findMade : tb_Mo_findMade.all (fun e => a_okb po_X11 kI_X11 kL_X11 cX11_findMade 4 none false e.1 e.2) = true := by decide +kernel
set_option maxRecDepth 100000 in
theorem ob_Mo_maskAt : tb_Mo_maskAt.all (fun e => a_okb po_X11 kI_X11 kL_X11 cX11_maskAt 3 (some .long) false e.1 e.2) = true := by decide +kernel
set_option maxRecDepth 100000 in
theorem ob_Mo_goOver_0 : (tb_Mo_goOver.take 60).all (fun e => a_okb po_X11 kI_X11 kL_X11 cX11_goOver 19 none false e.1 e.2) = true := by decide +kernel
set_option maxRecDepth 100000 in
theorem ob_Mo_goOver_1 : ((tb_Mo_goOver.drop 60).take 60).all (fun e => a_okb po_X11 kI_X11 kL_X11 cX11_goOver 19 none false e.1 e.2) = true := by decide +kernel
set_option maxRecDepth 100000 in
theorem ob_Mo_goOver_2 : (((tb_Mo_goOver.drop 60).drop 60).take 60).all (fun e => a_okb po_X11 kI_X11 kL_X11 cX11_goOver 19 none false e.1 e.2) = true := by decide +kernel
set_option maxRecDepth 100000 in
theorem ob_Mo_goOver_3 : (((tb_Mo_goOver.drop 60).drop 60).drop 60).all (fun e => a_okb po_X11 kI_X11 kL_X11 cX11_goOver 19 none false e.1 e.2) = true := by decide +kernel
theorem ob_Mo_goOver : tb_Mo_goOver.all (fun e => a_okb po_X11 kI_X11 kL_X11 cX11_goOver 19 none false e.1 e.2) = true := a_all2 60 ob_Mo_goOver_0 (a_all2 60 ob_Mo_goOver_1 (a_all2 60 ob_Mo_goOver_2 (ob_Mo_goOver_3)))
set_option maxRecDepth 100000 in
theorem ob_Mo_take : tb_Mo_take.all (fun e => a_okb po_X11 kI_X11 kL_X11 cX11_take 6 none false e.1 e.2) = true := by decide +kernel
set_option maxRecDepth 100000 in
theorem ob_Mo_isCast : tb_Mo_isCast.all (fun e => a_okb po_X11 kI_X11 kL_X11 cX11_isCast 2 (some .boolean) false e.1 e.2) = true := by decide +kernel
set_option maxRecDepth 100000 in
theorem ob_Mo_made : tb_Mo_made.all (fun e => a_okb po_X11 kI_X11 kL_X11 cX11_made 3 (some .int) false e.1 e.2) = true := by decide +kernel
set_option maxRecDepth 100000 in
theorem ob_Mo_who : tb_Mo_who.all (fun e => a_okb po_X11 kI_X11 kL_X11 cX11_who 6 (some .int) false e.1 e.2) = true := by decide +kernel
set_option maxRecDepth 100000 in
theorem ob_Mo_show_0 : (tb_Mo_show.take 60).all (fun e => a_okb po_X11 kI_X11 kL_X11 cX11_show 8 (some .int) false e.1 e.2) = true := by decide +kernel
set_option maxRecDepth 100000 in
theorem ob_Mo_show_1 : (tb_Mo_show.drop 60).all (fun e => a_okb po_X11 kI_X11 kL_X11 cX11_show 8 (some .int) false e.1 e.2) = true := by decide +kernel
theorem ob_Mo_show : tb_Mo_show.all (fun e => a_okb po_X11 kI_X11 kL_X11 cX11_show 8 (some .int) false e.1 e.2) = true := a_all2 60 ob_Mo_show_0 (ob_Mo_show_1)
set_option maxRecDepth 100000 in
theorem ob_Mo_slipped : tb_Mo_slipped.all (fun e => a_okb po_X11 kI_X11 kL_X11 cX11_slipped 2 (some .int) false e.1 e.2) = true := by decide +kernel
set_option maxRecDepth 100000 in
theorem ob_Mo_count : tb_Mo_count.all (fun e => a_okb po_X11 kI_X11 kL_X11 cX11_count 8 (some .int) false e.1 e.2) = true := by decide +kernel
set_option maxRecDepth 100000 in
theorem ob_Mo_status : tb_Mo_status.all (fun e => a_okb po_X11 kI_X11 kL_X11 cX11_status 1 (some .int) false e.1 e.2) = true := by decide +kernel
set_option maxRecDepth 100000 in
theorem ob_J_ntzI : tb_J_ntzI.all (fun e => a_okb po_J6 kI_J6 kL_J6 cJ6_numberOfTrailingZeros_0f7a4 2 (some .int) false e.1 e.2) = true := by decide +kernel
set_option maxRecDepth 100000 in
theorem ob_J_bitI : tb_J_bitI.all (fun e => a_okb po_J6 kI_J6 kL_J6 cJ6_bitCount_0f7a4 1 (some .int) false e.1 e.2) = true := by decide +kernel
set_option maxRecDepth 100000 in
theorem ob_J_ntzL : tb_J_ntzL.all (fun e => a_okb po_J13 kI_J13 kL_J13 cJ13_numberOfTrailingZeros_95d88 3 (some .int) false e.1 e.2) = true := by decide +kernel
set_option maxRecDepth 100000 in
theorem ob_J_bitL : tb_J_bitL.all (fun e => a_okb po_J13 kI_J13 kL_J13 cJ13_bitCount_95d88 2 (some .int) false e.1 e.2) = true := by decide +kernel
set_option maxRecDepth 100000 in
theorem ob_J_rng : tb_J_rng.all (fun e => a_okb po_J7 kI_J7 kL_J7 cJ7_rangeCheck_23922 3 none false e.1 e.2) = true := by decide +kernel
set_option maxRecDepth 100000 in
theorem ob_J_fillL : tb_J_fillL.all (fun e => a_okb po_J7 kI_J7 kL_J7 cJ7_fill_d0a16 5 none false e.1 e.2) = true := by decide +kernel
set_option maxRecDepth 100000 in
theorem ob_J_fillLr : tb_J_fillLr.all (fun e => a_okb po_J7 kI_J7 kL_J7 cJ7_fill_bad5a 6 none false e.1 e.2) = true := by decide +kernel
set_option maxRecDepth 100000 in
theorem ob_J_fillI : tb_J_fillI.all (fun e => a_okb po_J7 kI_J7 kL_J7 cJ7_fill_53178 4 none false e.1 e.2) = true := by decide +kernel
set_option maxRecDepth 100000 in
theorem ob_J_fillIr : tb_J_fillIr.all (fun e => a_okb po_J7 kI_J7 kL_J7 cJ7_fill_fda19 5 none false e.1 e.2) = true := by decide +kernel
set_option maxRecDepth 100000 in
theorem ob_law_0 : (tb_law.take 60).all (fun e => a_okb po_L kI_L kL_L cL_law 4 (some .boolean) false e.1 e.2) = true := by decide +kernel
set_option maxRecDepth 100000 in
theorem ob_law_1 : ((tb_law.drop 60).take 60).all (fun e => a_okb po_L kI_L kL_L cL_law 4 (some .boolean) false e.1 e.2) = true := by decide +kernel
set_option maxRecDepth 100000 in
theorem ob_law_2 : (((tb_law.drop 60).drop 60).take 60).all (fun e => a_okb po_L kI_L kL_L cL_law 4 (some .boolean) false e.1 e.2) = true := by decide +kernel
set_option maxRecDepth 100000 in
theorem ob_law_3 : ((((tb_law.drop 60).drop 60).drop 60).take 60).all (fun e => a_okb po_L kI_L kL_L cL_law 4 (some .boolean) false e.1 e.2) = true := by decide +kernel
set_option maxRecDepth 100000 in
theorem ob_law_4 : (((((tb_law.drop 60).drop 60).drop 60).drop 60).take 60).all (fun e => a_okb po_L kI_L kL_L cL_law 4 (some .boolean) false e.1 e.2) = true := by decide +kernel
set_option maxRecDepth 100000 in
theorem ob_law_5 : ((((((tb_law.drop 60).drop 60).drop 60).drop 60).drop 60).take 60).all (fun e => a_okb po_L kI_L kL_L cL_law 4 (some .boolean) false e.1 e.2) = true := by decide +kernel
set_option maxRecDepth 100000 in
theorem ob_law_6 : (((((((tb_law.drop 60).drop 60).drop 60).drop 60).drop 60).drop 60).take 60).all (fun e => a_okb po_L kI_L kL_L cL_law 4 (some .boolean) false e.1 e.2) = true := by decide +kernel
set_option maxRecDepth 100000 in
theorem ob_law_7 : ((((((((tb_law.drop 60).drop 60).drop 60).drop 60).drop 60).drop 60).drop 60).take 60).all (fun e => a_okb po_L kI_L kL_L cL_law 4 (some .boolean) false e.1 e.2) = true := by decide +kernel
set_option maxRecDepth 100000 in
theorem ob_law_8 : (((((((((tb_law.drop 60).drop 60).drop 60).drop 60).drop 60).drop 60).drop 60).drop 60).take 60).all (fun e => a_okb po_L kI_L kL_L cL_law 4 (some .boolean) false e.1 e.2) = true := by decide +kernel
set_option maxRecDepth 100000 in
theorem ob_law_9 : ((((((((((tb_law.drop 60).drop 60).drop 60).drop 60).drop 60).drop 60).drop 60).drop 60).drop 60).take 60).all (fun e => a_okb po_L kI_L kL_L cL_law 4 (some .boolean) false e.1 e.2) = true := by decide +kernel
set_option maxRecDepth 100000 in
theorem ob_law_10 : (((((((((((tb_law.drop 60).drop 60).drop 60).drop 60).drop 60).drop 60).drop 60).drop 60).drop 60).drop 60).take 60).all (fun e => a_okb po_L kI_L kL_L cL_law 4 (some .boolean) false e.1 e.2) = true := by decide +kernel
set_option maxRecDepth 100000 in
theorem ob_law_11 : ((((((((((((tb_law.drop 60).drop 60).drop 60).drop 60).drop 60).drop 60).drop 60).drop 60).drop 60).drop 60).drop 60).take 60).all (fun e => a_okb po_L kI_L kL_L cL_law 4 (some .boolean) false e.1 e.2) = true := by decide +kernel
set_option maxRecDepth 100000 in
theorem ob_law_12 : (((((((((((((tb_law.drop 60).drop 60).drop 60).drop 60).drop 60).drop 60).drop 60).drop 60).drop 60).drop 60).drop 60).drop 60).take 60).all (fun e => a_okb po_L kI_L kL_L cL_law 4 (some .boolean) false e.1 e.2) = true := by decide +kernel
set_option maxRecDepth 100000 in
theorem ob_law_13 : (((((((((((((tb_law.drop 60).drop 60).drop 60).drop 60).drop 60).drop 60).drop 60).drop 60).drop 60).drop 60).drop 60).drop 60).drop 60).all (fun e => a_okb po_L kI_L kL_L cL_law 4 (some .boolean) false e.1 e.2) = true := by decide +kernel
theorem ob_law : tb_law.all (fun e => a_okb po_L kI_L kL_L cL_law 4 (some .boolean) false e.1 e.2) = true := a_all2 60 ob_law_0 (a_all2 60 ob_law_1 (a_all2 60 ob_law_2 (a_all2 60 ob_law_3 (a_all2 60 ob_law_4 (a_all2 60 ob_law_5 (a_all2 60 ob_law_6 (a_all2 60 ob_law_7 (a_all2 60 ob_law_8 (a_all2 60 ob_law_9 (a_all2 60 ob_law_10 (a_all2 60 ob_law_11 (a_all2 60 ob_law_12 (ob_law_13)))))))))))))
