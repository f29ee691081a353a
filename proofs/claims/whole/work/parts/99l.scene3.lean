/-! ===== terms, on, off: the calls ===== -/
theorem l32 (x : Int32) : (x < nI 32) = ¬ (nI 31 < x) := ltS (n := 31) (by decide)
theorem l16 (x : Int32) : (x < nI 16) = ¬ (nI 15 < x) := ltS (n := 15) (by decide)
section SC3
variable {N : Nat} {X : Nat → Int32} {ow : Nat → Nat} {S : Nat → Nat → Nat} {LF : aLF} {g : aG} {I : Nat → Nat → Int32} {J : Nat → Nat → Int64} {Q : aQ} {d : Nat}
theorem m_on {f b x y z : Int32} (h : INV N X ow S LF g I J) : BOTH N X (d + 3) m_Cp_on m_Mo_on [.int f, .int b, .int x, .int y, .int z] (g, I, J) := by
  have hg := h.1.1
  have hS := h.2.2.1.1
  have hB := hS.2
  have h7 := sb7 hB 0
  have hM := h.2.2.1.2.1
  cases hb : beI b with
  | false =>
    refine both_r h (-1) 1 (by decide) (by decide) (fun Q hq => ?_) (fun Q hq => ?_)
    · simp (disch := omega) only [e_Cp_on, b_Cp_on_0, b_Cp_on_4, b_Cp_on_7, b_Cp_on_11, b_Cp_on_17, b_Cp_on_22, b_Cp_on_29, b_Cp_on_35, b_Cp_on_42 hg, b_Cp_on_47, b_Cp_on_48 hg, b_Cp_on_56, b_Cp_on_59 hg, b_Cp_on_65, b_Cp_on_66 hg, b_Cp_on_80 hg, b_Cp_on_84 hg, b_Cp_on_89, c_isBeat, hb, c_refuse hg (v := (-1 : Int32)) (r := 1) (by decide) (by decide) (by decide), exI, exJ, exV, eq_self, true_and, and_true, true_or, or_true, if_true, if_false, not_true, not_false_eq_true, false_and, and_false, decide_true, decide_false, bi_T, bi_F, bi_0, bi_1, bi_z, bft, n10, n01, Nat.reduceEqDiff, Nat.reduceLT, Nat.reduceAdd, Nat.reduceMul, reduceCtorEq]; exact hq
    · simp (disch := omega) only [e_Mo_on, b_Mo_on_0 hg, b_Mo_on_9, b_Mo_on_12, b_Mo_on_21, b_Mo_on_24, b_Mo_on_34, b_Mo_on_37, b_Mo_on_47, b_Mo_on_50 hg, b_Mo_on_55, b_Mo_on_56 hg, b_Mo_on_61, b_Mo_on_64 hg, b_Mo_on_70, b_Mo_on_71 hg, b_Mo_on_83 hg, b_Mo_on_88, c_mIsBeat, hb, tl_rf (v := (-1 : Int32)) (r := 1) h (by decide) (by decide) (by decide), exI, exJ, exV, eq_self, true_and, and_true, true_or, or_true, if_true, if_false, not_true, not_false_eq_true, false_and, and_false, decide_true, decide_false, bi_T, bi_F, bi_0, bi_1, bi_z, bft, n10, n01, Nat.reduceEqDiff, Nat.reduceLT, Nat.reduceAdd, Nat.reduceMul, reduceCtorEq]; exact hq
  | true =>
  by_cases x0 : x < nI 0
  · refine both_r h (-1) 1 (by decide) (by decide) (fun Q hq => ?_) (fun Q hq => ?_)
    · simp (disch := omega) only [e_Cp_on, b_Cp_on_0, b_Cp_on_4, b_Cp_on_7, b_Cp_on_11, b_Cp_on_17, b_Cp_on_22, b_Cp_on_29, b_Cp_on_35, b_Cp_on_42 hg, b_Cp_on_47, b_Cp_on_48 hg, b_Cp_on_56, b_Cp_on_59 hg, b_Cp_on_65, b_Cp_on_66 hg, b_Cp_on_80 hg, b_Cp_on_84 hg, b_Cp_on_89, c_isBeat, l32 x, l16 y, hb, x0, c_refuse hg (v := (-1 : Int32)) (r := 1) (by decide) (by decide) (by decide), exI, exJ, exV, eq_self, true_and, and_true, true_or, or_true, if_true, if_false, not_true, not_false_eq_true, false_and, and_false, decide_true, decide_false, bi_T, bi_F, bi_0, bi_1, bi_z, bft, n10, n01, Nat.reduceEqDiff, Nat.reduceLT, Nat.reduceAdd, Nat.reduceMul, reduceCtorEq]; exact hq
    · simp (disch := omega) only [e_Mo_on, b_Mo_on_0 hg, b_Mo_on_9, b_Mo_on_12, b_Mo_on_21, b_Mo_on_24, b_Mo_on_34, b_Mo_on_37, b_Mo_on_47, b_Mo_on_50 hg, b_Mo_on_55, b_Mo_on_56 hg, b_Mo_on_61, b_Mo_on_64 hg, b_Mo_on_70, b_Mo_on_71 hg, b_Mo_on_83 hg, b_Mo_on_88, c_mIsBeat, c_inI, hb, x0, tl_rf (v := (-1 : Int32)) (r := 1) h (by decide) (by decide) (by decide), exI, exJ, exV, eq_self, true_and, and_true, true_or, or_true, if_true, if_false, not_true, not_false_eq_true, false_and, and_false, decide_true, decide_false, bi_T, bi_F, bi_0, bi_1, bi_z, bft, n10, n01, Nat.reduceEqDiff, Nat.reduceLT, Nat.reduceAdd, Nat.reduceMul, reduceCtorEq]; exact hq
  by_cases x1 : nI 31 < x
  · refine both_r h (-1) 1 (by decide) (by decide) (fun Q hq => ?_) (fun Q hq => ?_)
    · simp (disch := omega) only [e_Cp_on, b_Cp_on_0, b_Cp_on_4, b_Cp_on_7, b_Cp_on_11, b_Cp_on_17, b_Cp_on_22, b_Cp_on_29, b_Cp_on_35, b_Cp_on_42 hg, b_Cp_on_47, b_Cp_on_48 hg, b_Cp_on_56, b_Cp_on_59 hg, b_Cp_on_65, b_Cp_on_66 hg, b_Cp_on_80 hg, b_Cp_on_84 hg, b_Cp_on_89, c_isBeat, l32 x, l16 y, hb, x0, x1, c_refuse hg (v := (-1 : Int32)) (r := 1) (by decide) (by decide) (by decide), exI, exJ, exV, eq_self, true_and, and_true, true_or, or_true, if_true, if_false, not_true, not_false_eq_true, false_and, and_false, decide_true, decide_false, bi_T, bi_F, bi_0, bi_1, bi_z, bft, n10, n01, Nat.reduceEqDiff, Nat.reduceLT, Nat.reduceAdd, Nat.reduceMul, reduceCtorEq]; exact hq
    · simp (disch := omega) only [e_Mo_on, b_Mo_on_0 hg, b_Mo_on_9, b_Mo_on_12, b_Mo_on_21, b_Mo_on_24, b_Mo_on_34, b_Mo_on_37, b_Mo_on_47, b_Mo_on_50 hg, b_Mo_on_55, b_Mo_on_56 hg, b_Mo_on_61, b_Mo_on_64 hg, b_Mo_on_70, b_Mo_on_71 hg, b_Mo_on_83 hg, b_Mo_on_88, c_mIsBeat, c_inI, hb, x0, x1, tl_rf (v := (-1 : Int32)) (r := 1) h (by decide) (by decide) (by decide), exI, exJ, exV, eq_self, true_and, and_true, true_or, or_true, if_true, if_false, not_true, not_false_eq_true, false_and, and_false, decide_true, decide_false, bi_T, bi_F, bi_0, bi_1, bi_z, bft, n10, n01, Nat.reduceEqDiff, Nat.reduceLT, Nat.reduceAdd, Nat.reduceMul, reduceCtorEq]; exact hq
  by_cases y0 : y < nI 0
  · refine both_r h (-1) 1 (by decide) (by decide) (fun Q hq => ?_) (fun Q hq => ?_)
    · simp (disch := omega) only [e_Cp_on, b_Cp_on_0, b_Cp_on_4, b_Cp_on_7, b_Cp_on_11, b_Cp_on_17, b_Cp_on_22, b_Cp_on_29, b_Cp_on_35, b_Cp_on_42 hg, b_Cp_on_47, b_Cp_on_48 hg, b_Cp_on_56, b_Cp_on_59 hg, b_Cp_on_65, b_Cp_on_66 hg, b_Cp_on_80 hg, b_Cp_on_84 hg, b_Cp_on_89, c_isBeat, l32 x, l16 y, hb, x0, x1, y0, c_refuse hg (v := (-1 : Int32)) (r := 1) (by decide) (by decide) (by decide), exI, exJ, exV, eq_self, true_and, and_true, true_or, or_true, if_true, if_false, not_true, not_false_eq_true, false_and, and_false, decide_true, decide_false, bi_T, bi_F, bi_0, bi_1, bi_z, bft, n10, n01, Nat.reduceEqDiff, Nat.reduceLT, Nat.reduceAdd, Nat.reduceMul, reduceCtorEq]; exact hq
    · simp (disch := omega) only [e_Mo_on, b_Mo_on_0 hg, b_Mo_on_9, b_Mo_on_12, b_Mo_on_21, b_Mo_on_24, b_Mo_on_34, b_Mo_on_37, b_Mo_on_47, b_Mo_on_50 hg, b_Mo_on_55, b_Mo_on_56 hg, b_Mo_on_61, b_Mo_on_64 hg, b_Mo_on_70, b_Mo_on_71 hg, b_Mo_on_83 hg, b_Mo_on_88, c_mIsBeat, c_inI, hb, x0, x1, y0, tl_rf (v := (-1 : Int32)) (r := 1) h (by decide) (by decide) (by decide), exI, exJ, exV, eq_self, true_and, and_true, true_or, or_true, if_true, if_false, not_true, not_false_eq_true, false_and, and_false, decide_true, decide_false, bi_T, bi_F, bi_0, bi_1, bi_z, bft, n10, n01, Nat.reduceEqDiff, Nat.reduceLT, Nat.reduceAdd, Nat.reduceMul, reduceCtorEq]; exact hq
  by_cases y1 : nI 15 < y
  · refine both_r h (-1) 1 (by decide) (by decide) (fun Q hq => ?_) (fun Q hq => ?_)
    · simp (disch := omega) only [e_Cp_on, b_Cp_on_0, b_Cp_on_4, b_Cp_on_7, b_Cp_on_11, b_Cp_on_17, b_Cp_on_22, b_Cp_on_29, b_Cp_on_35, b_Cp_on_42 hg, b_Cp_on_47, b_Cp_on_48 hg, b_Cp_on_56, b_Cp_on_59 hg, b_Cp_on_65, b_Cp_on_66 hg, b_Cp_on_80 hg, b_Cp_on_84 hg, b_Cp_on_89, c_isBeat, l32 x, l16 y, hb, x0, x1, y0, y1, c_refuse hg (v := (-1 : Int32)) (r := 1) (by decide) (by decide) (by decide), exI, exJ, exV, eq_self, true_and, and_true, true_or, or_true, if_true, if_false, not_true, not_false_eq_true, false_and, and_false, decide_true, decide_false, bi_T, bi_F, bi_0, bi_1, bi_z, bft, n10, n01, Nat.reduceEqDiff, Nat.reduceLT, Nat.reduceAdd, Nat.reduceMul, reduceCtorEq]; exact hq
    · simp (disch := omega) only [e_Mo_on, b_Mo_on_0 hg, b_Mo_on_9, b_Mo_on_12, b_Mo_on_21, b_Mo_on_24, b_Mo_on_34, b_Mo_on_37, b_Mo_on_47, b_Mo_on_50 hg, b_Mo_on_55, b_Mo_on_56 hg, b_Mo_on_61, b_Mo_on_64 hg, b_Mo_on_70, b_Mo_on_71 hg, b_Mo_on_83 hg, b_Mo_on_88, c_mIsBeat, c_inI, hb, x0, x1, y0, y1, tl_rf (v := (-1 : Int32)) (r := 1) h (by decide) (by decide) (by decide), exI, exJ, exV, eq_self, true_and, and_true, true_or, or_true, if_true, if_false, not_true, not_false_eq_true, false_and, and_false, decide_true, decide_false, bi_T, bi_F, bi_0, bi_1, bi_z, bft, n10, n01, Nat.reduceEqDiff, Nat.reduceLT, Nat.reduceAdd, Nat.reduceMul, reduceCtorEq]; exact hq
  by_cases d0 : z < nI 1
  · refine both_r h (-1) 1 (by decide) (by decide) (fun Q hq => ?_) (fun Q hq => ?_)
    · simp (disch := omega) only [e_Cp_on, b_Cp_on_0, b_Cp_on_4, b_Cp_on_7, b_Cp_on_11, b_Cp_on_17, b_Cp_on_22, b_Cp_on_29, b_Cp_on_35, b_Cp_on_42 hg, b_Cp_on_47, b_Cp_on_48 hg, b_Cp_on_56, b_Cp_on_59 hg, b_Cp_on_65, b_Cp_on_66 hg, b_Cp_on_80 hg, b_Cp_on_84 hg, b_Cp_on_89, c_isBeat, l32 x, l16 y, hb, x0, x1, y0, y1, d0, c_refuse hg (v := (-1 : Int32)) (r := 1) (by decide) (by decide) (by decide), exI, exJ, exV, eq_self, true_and, and_true, true_or, or_true, if_true, if_false, not_true, not_false_eq_true, false_and, and_false, decide_true, decide_false, bi_T, bi_F, bi_0, bi_1, bi_z, bft, n10, n01, Nat.reduceEqDiff, Nat.reduceLT, Nat.reduceAdd, Nat.reduceMul, reduceCtorEq]; exact hq
    · simp (disch := omega) only [e_Mo_on, b_Mo_on_0 hg, b_Mo_on_9, b_Mo_on_12, b_Mo_on_21, b_Mo_on_24, b_Mo_on_34, b_Mo_on_37, b_Mo_on_47, b_Mo_on_50 hg, b_Mo_on_55, b_Mo_on_56 hg, b_Mo_on_61, b_Mo_on_64 hg, b_Mo_on_70, b_Mo_on_71 hg, b_Mo_on_83 hg, b_Mo_on_88, c_mIsBeat, c_inI, hb, x0, x1, y0, y1, d0, tl_rf (v := (-1 : Int32)) (r := 1) h (by decide) (by decide) (by decide), exI, exJ, exV, eq_self, true_and, and_true, true_or, or_true, if_true, if_false, not_true, not_false_eq_true, false_and, and_false, decide_true, decide_false, bi_T, bi_F, bi_0, bi_1, bi_z, bft, n10, n01, Nat.reduceEqDiff, Nat.reduceLT, Nat.reduceAdd, Nat.reduceMul, reduceCtorEq]; exact hq
  by_cases d1 : nI 32 < z
  · refine both_r h (-1) 1 (by decide) (by decide) (fun Q hq => ?_) (fun Q hq => ?_)
    · simp (disch := omega) only [e_Cp_on, b_Cp_on_0, b_Cp_on_4, b_Cp_on_7, b_Cp_on_11, b_Cp_on_17, b_Cp_on_22, b_Cp_on_29, b_Cp_on_35, b_Cp_on_42 hg, b_Cp_on_47, b_Cp_on_48 hg, b_Cp_on_56, b_Cp_on_59 hg, b_Cp_on_65, b_Cp_on_66 hg, b_Cp_on_80 hg, b_Cp_on_84 hg, b_Cp_on_89, c_isBeat, l32 x, l16 y, hb, x0, x1, y0, y1, d0, d1, c_refuse hg (v := (-1 : Int32)) (r := 1) (by decide) (by decide) (by decide), exI, exJ, exV, eq_self, true_and, and_true, true_or, or_true, if_true, if_false, not_true, not_false_eq_true, false_and, and_false, decide_true, decide_false, bi_T, bi_F, bi_0, bi_1, bi_z, bft, n10, n01, Nat.reduceEqDiff, Nat.reduceLT, Nat.reduceAdd, Nat.reduceMul, reduceCtorEq]; exact hq
    · simp (disch := omega) only [e_Mo_on, b_Mo_on_0 hg, b_Mo_on_9, b_Mo_on_12, b_Mo_on_21, b_Mo_on_24, b_Mo_on_34, b_Mo_on_37, b_Mo_on_47, b_Mo_on_50 hg, b_Mo_on_55, b_Mo_on_56 hg, b_Mo_on_61, b_Mo_on_64 hg, b_Mo_on_70, b_Mo_on_71 hg, b_Mo_on_83 hg, b_Mo_on_88, c_mIsBeat, c_inI, hb, x0, x1, y0, y1, d0, d1, tl_rf (v := (-1 : Int32)) (r := 1) h (by decide) (by decide) (by decide), exI, exJ, exV, eq_self, true_and, and_true, true_or, or_true, if_true, if_false, not_true, not_false_eq_true, false_and, and_false, decide_true, decide_false, bi_T, bi_F, bi_0, bi_1, bi_z, bft, n10, n01, Nat.reduceEqDiff, Nat.reduceLT, Nat.reduceAdd, Nat.reduceMul, reduceCtorEq]; exact hq
  cases hf : hasS S f with
  | false =>
    refine both_r h (-2) 2 (by decide) (by decide) (fun Q hq => ?_) (fun Q hq => ?_)
    · simp (disch := omega) only [e_Cp_on, b_Cp_on_0, b_Cp_on_4, b_Cp_on_7, b_Cp_on_11, b_Cp_on_17, b_Cp_on_22, b_Cp_on_29, b_Cp_on_35, b_Cp_on_42 hg, b_Cp_on_47, b_Cp_on_48 hg, b_Cp_on_56, b_Cp_on_59 hg, b_Cp_on_65, b_Cp_on_66 hg, b_Cp_on_80 hg, b_Cp_on_84 hg, b_Cp_on_89, c_isBeat, l32 x, l16 y, hb, x0, x1, y0, y1, d0, d1, c_has hg, hasS_I hS, hf, c_refuse hg (v := (-2 : Int32)) (r := 2) (by decide) (by decide) (by decide), exI, exJ, exV, eq_self, true_and, and_true, true_or, or_true, if_true, if_false, not_true, not_false_eq_true, false_and, and_false, decide_true, decide_false, bi_T, bi_F, bi_0, bi_1, bi_z, bft, n10, n01, Nat.reduceEqDiff, Nat.reduceLT, Nat.reduceAdd, Nat.reduceMul, reduceCtorEq]; exact hq
    · simp (disch := omega) only [e_Mo_on, b_Mo_on_0 hg, b_Mo_on_9, b_Mo_on_12, b_Mo_on_21, b_Mo_on_24, b_Mo_on_34, b_Mo_on_37, b_Mo_on_47, b_Mo_on_50 hg, b_Mo_on_55, b_Mo_on_56 hg, b_Mo_on_61, b_Mo_on_64 hg, b_Mo_on_70, b_Mo_on_71 hg, b_Mo_on_83 hg, b_Mo_on_88, c_mIsBeat, c_inI, hb, x0, x1, y0, y1, d0, d1, c_isFigure hg hB (hMr h), hf, tl_rf (v := (-2 : Int32)) (r := 2) h (by decide) (by decide) (by decide), exI, exJ, exV, eq_self, true_and, and_true, true_or, or_true, if_true, if_false, not_true, not_false_eq_true, false_and, and_false, decide_true, decide_false, bi_T, bi_F, bi_0, bi_1, bi_z, bft, n10, n01, Nat.reduceEqDiff, Nat.reduceLT, Nat.reduceAdd, Nat.reduceMul, reduceCtorEq]; exact hq
  | true =>
  obtain ⟨n, hn, rfl⟩ := hasS_of hB hf
  obtain ⟨k, hk, rfl⟩ := beI_of hb
  obtain ⟨xx, rfl, -, xm⟩ := irng (by decide) (by decide) x0 x1
  obtain ⟨yy, rfl, -, ym⟩ := irng (by decide) (by decide) y0 y1
  obtain ⟨zz, rfl, zl, zm⟩ := irng (by decide) (by decide) d0 d1
  unfold BOTH
  simp (disch := omega) only [e_Cp_on, b_Cp_on_0, b_Cp_on_4, b_Cp_on_7, b_Cp_on_11, b_Cp_on_17, b_Cp_on_22, b_Cp_on_29, b_Cp_on_35, b_Cp_on_42 hg, b_Cp_on_47, b_Cp_on_48 hg, b_Cp_on_56, b_Cp_on_59 hg, b_Cp_on_65, b_Cp_on_66 hg, b_Cp_on_80 hg, b_Cp_on_84 hg, b_Cp_on_89, c_isBeat, hb, l32 (nI xx), l16 (nI yy), x0, x1, y0, y1, d0, d1, c_has hg, hasS_I hS, hf, c_put hg, put3, c_chHands hg, c_accept hg, exI, exJ, exV, eq_self, true_and, and_true, true_or, or_true, if_true, if_false, not_true, not_false_eq_true, false_and, and_false, decide_true, decide_false, bi_T, bi_F, bi_0, bi_1, bi_z, bft, n10, n01, Nat.reduceEqDiff, Nat.reduceLT, Nat.reduceAdd, Nat.reduceMul, reduceCtorEq]
  refine ⟨by rw [← h.2.1]; funext j; simp (disch := omega) only [u2_n, fl2_n], h.1.2.2.1, ?_⟩
  rw [e_Mo_on, b_Mo_on_0 hg]
  generalize eIc : u2 (u2 (u2 (fl2 (u2 (u2 (u2 I 11 (n * 12 + k) (nI xx)) 12 (n * 12 + k) (nI yy)) 13 (n * 12 + k) (nI zz)) 39 0 12 (nI 0)) 44 0 (nI 0)) 6 14 (nI 0)) 89 0 (nI 0) = Ic
  have e91 : Ic 91 = I 91 := by rw [← eIc]; funext i; simp (disch := omega) only [u2_n, fl2_n]
  have hMc : MS S (I 14) (Ic 91) := by rw [e91]; exact hM
  simp (disch := omega) only [b_Mo_on_9, b_Mo_on_12, b_Mo_on_21, b_Mo_on_24, b_Mo_on_34, b_Mo_on_37, b_Mo_on_47, b_Mo_on_50 hg, b_Mo_on_55, b_Mo_on_56 hg, b_Mo_on_61, b_Mo_on_64 hg, b_Mo_on_70, b_Mo_on_71 hg, b_Mo_on_83 hg, b_Mo_on_88, c_mIsBeat, hb, c_inI, x0, x1, y0, y1, d0, d1, c_isFigure hg hB hMc, hf, c_mPut hg, tell0 hg, exI, exJ, exV, eq_self, true_and, and_true, true_or, or_true, if_true, if_false, not_true, not_false_eq_true, false_and, and_false, decide_true, decide_false, bi_T, bi_F, bi_0, bi_1, bi_z, bft, n10, n01, Nat.reduceEqDiff, Nat.reduceLT, Nat.reduceAdd, Nat.reduceMul, reduceCtorEq]
  rw [← eIc]
  have ep : n * 12 + k = 12 * n + k := by omega
  rw [← ep]
  have hp : n * 12 + k < 72 := by omega
  generalize n * 12 + k = p at hp
  refine INVx_i (INV_sm (S' := u2 (u2 (u2 S 11 p xx) 12 p yy) 13 p zz) h (fun a j y1 y2 y3 y4 y5 y6 y7 y8 => ?_) ?_ ?_ ?_ (fun b hb => ?_) ?_ ⟨fun a j y1 y2 => ?_, ?_⟩ ?_ (fun i hi => ?_) (MC_k h (by rw [u2_r (by decide), u2_r (by decide), u2_r (by decide)]) (by rw [u2_a (by decide), u2_a (by decide), u2_a (by decide)]) (fun a j y1 y2 => ?_)))
  · simp (disch := omega) only [u2_n, fl2_n]
  · simp (disch := omega) only [u2_n, u2_s]
  · simp (disch := omega) only [u2_n, u2_s]
  · exact u2_s
  · simp (disch := omega) only [u2_n, fl2_in]
  · simp (disch := omega) only [u2_n, u2_s]
  · rw [← CSu (p := 13) (k := p) (v := zz) (CSu (p := 12) (k := p) (v := yy) (CSu (p := 11) (k := p) (v := xx) hS.1)) a j y1 y2]
    simp (disch := omega) only [u2_n, fl2_n]
  · exact SBu (SBu (SBu hB (by omega) (by omega) (by omega) (by omega) (by omega) (by omega) (by omega)) (by omega) (by omega) (by omega) (by omega) (by omega) (by omega) (by omega)) (by omega) (by omega) (by omega) (by omega) (by omega) (by omega) (by omega)
  · refine MS_p hM hp (fun i hi => ?_) ?_ (fun _ => ⟨?_, ?_⟩) ?_
    · simp (disch := omega) only [u2_n, fl2_n]
    · rw [if_pos (by omega)]; simp (disch := omega) only [u2_n, u2_s]
    · simp (disch := omega) only [u2_n, u2_s]
    · simp (disch := omega) only [u2_n, u2_s]
    · simp (disch := omega) only [u2_n, u2_s]
  · simp (disch := omega) only [u2_n, fl2_n]
  · simp (disch := omega) only [u2_n, fl2_n]
theorem m_off {f b : Int32} (h : INV N X ow S LF g I J) : BOTH N X (d + 3) m_Cp_off m_Mo_off [.int f, .int b] (g, I, J) := by
  have hg := h.1.1
  have hS := h.2.2.1.1
  have hB := hS.2
  have h7 := sb7 hB 0
  have hM := h.2.2.1.2.1
  cases hb : beI b with
  | false =>
    refine both_r h (-1) 1 (by decide) (by decide) (fun Q hq => ?_) (fun Q hq => ?_)
    · simp (disch := omega) only [e_Cp_off, b_Cp_off_0, b_Cp_off_4, b_Cp_off_7 hg, b_Cp_off_12, b_Cp_off_13 hg, b_Cp_off_21, b_Cp_off_24 hg, b_Cp_off_30, b_Cp_off_31 hg, b_Cp_off_40, b_Cp_off_43, b_Cp_off_47, b_Cp_off_48 hg, b_Cp_off_61 hg, b_Cp_off_65 hg, b_Cp_off_70, c_isBeat, hb, c_refuse hg (v := (-1 : Int32)) (r := 1) (by decide) (by decide) (by decide), exI, exJ, exV, eq_self, true_and, and_true, true_or, or_true, if_true, if_false, not_true, not_false_eq_true, false_and, and_false, decide_true, decide_false, bi_T, bi_F, bi_0, bi_1, bi_z, bft, n10, n01, Nat.reduceEqDiff, Nat.reduceLT, Nat.reduceAdd, Nat.reduceMul, reduceCtorEq]; exact hq
    · simp (disch := omega) only [e_Mo_off, b_Mo_off_0 hg, b_Mo_off_9, b_Mo_off_12 hg, b_Mo_off_17, b_Mo_off_18 hg, b_Mo_off_23, b_Mo_off_26 hg, b_Mo_off_32, b_Mo_off_33 hg, b_Mo_off_40 hg, b_Mo_off_51 hg, b_Mo_off_56, c_mIsBeat, hb, tl_rf (v := (-1 : Int32)) (r := 1) h (by decide) (by decide) (by decide), exI, exJ, exV, eq_self, true_and, and_true, true_or, or_true, if_true, if_false, not_true, not_false_eq_true, false_and, and_false, decide_true, decide_false, bi_T, bi_F, bi_0, bi_1, bi_z, bft, n10, n01, Nat.reduceEqDiff, Nat.reduceLT, Nat.reduceAdd, Nat.reduceMul, reduceCtorEq]; exact hq
  | true =>
  cases hf : hasS S f with
  | false =>
    refine both_r h (-2) 2 (by decide) (by decide) (fun Q hq => ?_) (fun Q hq => ?_)
    · simp (disch := omega) only [e_Cp_off, b_Cp_off_0, b_Cp_off_4, b_Cp_off_7 hg, b_Cp_off_12, b_Cp_off_13 hg, b_Cp_off_21, b_Cp_off_24 hg, b_Cp_off_30, b_Cp_off_31 hg, b_Cp_off_40, b_Cp_off_43, b_Cp_off_47, b_Cp_off_48 hg, b_Cp_off_61 hg, b_Cp_off_65 hg, b_Cp_off_70, c_isBeat, hb, c_has hg, hasS_I hS, hf, c_refuse hg (v := (-2 : Int32)) (r := 2) (by decide) (by decide) (by decide), exI, exJ, exV, eq_self, true_and, and_true, true_or, or_true, if_true, if_false, not_true, not_false_eq_true, false_and, and_false, decide_true, decide_false, bi_T, bi_F, bi_0, bi_1, bi_z, bft, n10, n01, Nat.reduceEqDiff, Nat.reduceLT, Nat.reduceAdd, Nat.reduceMul, reduceCtorEq]; exact hq
    · simp (disch := omega) only [e_Mo_off, b_Mo_off_0 hg, b_Mo_off_9, b_Mo_off_12 hg, b_Mo_off_17, b_Mo_off_18 hg, b_Mo_off_23, b_Mo_off_26 hg, b_Mo_off_32, b_Mo_off_33 hg, b_Mo_off_40 hg, b_Mo_off_51 hg, b_Mo_off_56, c_mIsBeat, hb, c_isFigure hg hB (hMr h), hf, tl_rf (v := (-2 : Int32)) (r := 2) h (by decide) (by decide) (by decide), exI, exJ, exV, eq_self, true_and, and_true, true_or, or_true, if_true, if_false, not_true, not_false_eq_true, false_and, and_false, decide_true, decide_false, bi_T, bi_F, bi_0, bi_1, bi_z, bft, n10, n01, Nat.reduceEqDiff, Nat.reduceLT, Nat.reduceAdd, Nat.reduceMul, reduceCtorEq]; exact hq
  | true =>
  obtain ⟨n, hn, rfl⟩ := hasS_of hB hf
  obtain ⟨k, hk, rfl⟩ := beI_of hb
  have ho : sOn S n k = decide (0 < S 13 (n * 12 + k)) := by unfold sOn; simp only [hn, true_and]
  have key : ∀ v : Nat, v = (if 0 < S 13 (n * 12 + k) then 1 else 0) → a_wp aTab aMX (d + 2) m_Cp_off 48 [.ref 6, .int (nI n), .int (nI k), aU] [.int (nI v)] (g, I, J) (fun v h2 => ∃ i : Int32, v = some (.int i) ∧ h2.2.1 1 = X ∧ gN h2.1 1 = N ∧ a_call aTab aMX (d + 3) m_Mo_off [.ref 89, .int (nI n), .int (nI k)] h2 (fun v3 h3 => ∃ i3 : Int32, v3 = some (.int i3) ∧ i = i3 ∧ INVx N X h3)) := by
    intro v hv
    simp (disch := omega) only [b_Cp_off_48 hg, b_Cp_off_61 hg, b_Cp_off_65 hg, b_Cp_off_70, c_put hg, put3, c_chHands hg, c_accept hg, exI, exJ, exV, eq_self, true_and, and_true, true_or, or_true, if_true, if_false, not_true, not_false_eq_true, false_and, and_false, decide_true, decide_false, bi_T, bi_F, bi_0, bi_1, bi_z, bft, n10, n01, Nat.reduceEqDiff, Nat.reduceLT, Nat.reduceAdd, Nat.reduceMul, reduceCtorEq]
    refine ⟨by rw [← h.2.1]; funext j; simp (disch := omega) only [u2_n, fl2_n], h.1.2.2.1, ?_⟩
    rw [e_Mo_off, b_Mo_off_0 hg]
    generalize eIc : u2 (u2 (u2 (fl2 (u2 (u2 (u2 I 11 (n * 12 + k) (nI 0)) 12 (n * 12 + k) (nI 0)) 13 (n * 12 + k) (nI 0)) 39 0 12 (nI 0)) 44 0 (nI 0)) 6 14 (nI 0)) 89 0 (nI 0) = Ic
    have e91 : Ic 91 = I 91 := by rw [← eIc]; funext i; simp (disch := omega) only [u2_n, fl2_n]
    have hMc : MS S (I 14) (Ic 91) := by rw [e91]; exact hM
    simp (disch := omega) only [b_Mo_off_9, b_Mo_off_12 hg, b_Mo_off_17, b_Mo_off_18 hg, b_Mo_off_23, b_Mo_off_26 hg, b_Mo_off_32, b_Mo_off_33 hg, b_Mo_off_40 hg, b_Mo_off_51 hg, b_Mo_off_56, c_mIsBeat, hb, c_isFigure hg hB hMc, hf, c_placeOf hg, mp0 hMc, ← hv, c_mPut hg, c_was hg, exI, exJ, exV, eq_self, true_and, and_true, true_or, or_true, if_true, if_false, not_true, not_false_eq_true, false_and, and_false, decide_true, decide_false, bi_T, bi_F, bi_0, bi_1, bi_z, bft, n10, n01, Nat.reduceEqDiff, Nat.reduceLT, Nat.reduceAdd, Nat.reduceMul, reduceCtorEq]
    rw [← eIc]
    have ep : n * 12 + k = 12 * n + k := by omega
    rw [← ep]
    have hp : n * 12 + k < 72 := by omega
    clear hv ho
    generalize n * 12 + k = p at hp
    refine INVx_i (INV_sm (S' := u2 (u2 (u2 S 11 p 0) 12 p 0) 13 p 0) h (fun a j y1 y2 y3 y4 y5 y6 y7 y8 => ?_) ?_ ?_ ?_ (fun b hb => ?_) ?_ ⟨fun a j y1 y2 => ?_, ?_⟩ ?_ (fun i hi => ?_) (MC_k h (by rw [u2_r (by decide), u2_r (by decide), u2_r (by decide)]) (by rw [u2_a (by decide), u2_a (by decide), u2_a (by decide)]) (fun a j y1 y2 => ?_)))
    · simp (disch := omega) only [u2_n, fl2_n]
    · simp (disch := omega) only [u2_n, u2_s]
    · simp (disch := omega) only [u2_n, u2_s]
    · exact u2_s
    · simp (disch := omega) only [u2_n, fl2_in]
    · simp (disch := omega) only [u2_n, u2_s]
    · rw [← CSu (p := 13) (k := p) (v := 0) (CSu (p := 12) (k := p) (v := 0) (CSu (p := 11) (k := p) (v := 0) hS.1)) a j y1 y2]
      simp (disch := omega) only [u2_n, fl2_n]
    · exact SBu (SBu (SBu hB (by omega) (by omega) (by omega) (by omega) (by omega) (by omega) (by omega)) (by omega) (by omega) (by omega) (by omega) (by omega) (by omega) (by omega)) (by omega) (by omega) (by omega) (by omega) (by omega) (by omega) (by omega)
    · refine MS_p hM hp (fun i hi => ?_) ?_ (fun z => absurd z (by decide)) ?_
      · simp (disch := omega) only [u2_n, fl2_n]
      · rw [if_neg (by omega)]; simp (disch := omega) only [u2_n, u2_s]
      · simp (disch := omega) only [u2_n, u2_s]
    · simp (disch := omega) only [u2_n, fl2_n]
    · simp (disch := omega) only [u2_n, fl2_n]
  unfold BOTH
  by_cases q : 0 < S 13 (n * 12 + k)
  · have k1 := key 1 (by rw [if_pos q])
    have o1 : sOn S n k = true := by rw [ho]; exact decide_eq_true q
    simp (disch := omega) only [e_Cp_off, b_Cp_off_0, b_Cp_off_4, b_Cp_off_13 hg, b_Cp_off_21, b_Cp_off_31 hg, b_Cp_off_40, b_Cp_off_43, c_isBeat, hb, c_has hg, hasS_I hS, hf, c_isOnN hg hS, o1, exI, exJ, exV, eq_self, true_and, and_true, true_or, or_true, if_true, if_false, not_true, not_false_eq_true, false_and, and_false, decide_true, decide_false, bi_T, bi_F, bi_0, bi_1, bi_z, bft, n10, n01, Nat.reduceEqDiff, Nat.reduceLT, Nat.reduceAdd, Nat.reduceMul, reduceCtorEq]
    exact k1
  · have k1 := key 0 (by rw [if_neg q])
    have o1 : sOn S n k = false := by rw [ho]; exact decide_eq_false q
    simp (disch := omega) only [e_Cp_off, b_Cp_off_0, b_Cp_off_4, b_Cp_off_13 hg, b_Cp_off_21, b_Cp_off_31 hg, b_Cp_off_40, b_Cp_off_47, c_isBeat, hb, c_has hg, hasS_I hS, hf, c_isOnN hg hS, o1, exI, exJ, exV, eq_self, true_and, and_true, true_or, or_true, if_true, if_false, not_true, not_false_eq_true, false_and, and_false, decide_true, decide_false, bi_T, bi_F, bi_0, bi_1, bi_z, bft, n10, n01, Nat.reduceEqDiff, Nat.reduceLT, Nat.reduceAdd, Nat.reduceMul, reduceCtorEq]
    exact k1
theorem c_isTerm {k : Nat} {v : Int32} (hk : k < 7) : a_call aTab aMX (d + 2) m_Mo_isTerm [.int (nI k), .int v] (g, I, J) Q = Q (some (.int (bi (decide (¬ v < nI (loT k) ∧ ¬ nI (hiT k) < v))))) (g, I, J) := by
  have hc : k = 0 ∨ k = 1 ∨ k = 2 ∨ k = 3 ∨ k = 4 ∨ k = 5 ∨ k = 6 := by omega
  rcases hc with rfl | rfl | rfl | rfl | rfl | rfl | rfl <;> simp (disch := omega) only [e_Mo_isTerm, b_Mo_isTerm_0, b_Mo_isTerm_44, b_Mo_isTerm_55, b_Mo_isTerm_56, b_Mo_isTerm_65, b_Mo_isTerm_66, b_Mo_isTerm_75, b_Mo_isTerm_76, b_Mo_isTerm_83, b_Mo_isTerm_84, b_Mo_isTerm_93, b_Mo_isTerm_94, b_Mo_isTerm_103, b_Mo_isTerm_104, b_Mo_isTerm_113, b_Mo_isTerm_114, neq, c_inI, loT, hiT, exI, exJ, exV, eq_self, true_and, and_true, true_or, or_true, if_true, if_false, not_true, not_false_eq_true, false_and, and_false, decide_true, decide_false, bi_T, bi_F, bi_0, bi_1, bi_z, bft, n10, n01, Nat.reduceEqDiff, Nat.reduceLT, Nat.reduceAdd, Nat.reduceMul, reduceCtorEq]
theorem c_isTermX {x v : Int32} (hx : x < nI 0 ∨ ¬ x < nI 7) : a_call aTab aMX (d + 2) m_Mo_isTerm [.int x, .int v] (g, I, J) Q = Q (some (.int (nI 0))) (g, I, J) := by
  have hc : ∀ k, k < 7 → (x = nI k) = False := fun k hk => eq_false (fun z => by
    rw [z, nlt (by omega) (by omega), nlt (by omega) (by omega)] at hx
    omega)
  simp (disch := omega) only [e_Mo_isTerm, b_Mo_isTerm_0, b_Mo_isTerm_44, b_Mo_isTerm_55, b_Mo_isTerm_56, b_Mo_isTerm_65, b_Mo_isTerm_66, b_Mo_isTerm_75, b_Mo_isTerm_76, b_Mo_isTerm_83, b_Mo_isTerm_84, b_Mo_isTerm_93, b_Mo_isTerm_94, b_Mo_isTerm_103, b_Mo_isTerm_104, b_Mo_isTerm_113, b_Mo_isTerm_114, hc, exI, exJ, exV, eq_self, true_and, and_true, true_or, or_true, if_true, if_false, not_true, not_false_eq_true, false_and, and_false, decide_true, decide_false, bi_T, bi_F, bi_0, bi_1, bi_z, bft, n10, n01, Nat.reduceEqDiff, Nat.reduceLT, Nat.reduceAdd, Nat.reduceMul, reduceCtorEq]
theorem m_terms {w x : Int32} (h : INV N X ow S LF g I J) : BOTH N X (d + 3) m_Cp_terms m_Mo_terms [.int w, .int x] (g, I, J) := by
  have hg := h.1.1
  have hS := h.2.2.1.1
  have hB := hS.2
  have hM := h.2.2.1.2.1
  rcases nIx w 7 (by decide) with q | ⟨q1, q2⟩ | ⟨k, hk, rfl⟩
  · refine both_r h (-1) 1 (by decide) (by decide) (fun Q hq => ?_) (fun Q hq => ?_)
    · simp (disch := omega) only [e_Cp_terms, b_Cp_terms_0, b_Cp_terms_4, b_Cp_terms_10 hg, b_Cp_terms_19 hg, b_Cp_terms_28 hg, b_Cp_terms_33, b_Cp_terms_34 hg, b_Cp_terms_58, b_Cp_terms_62 hg, b_Cp_terms_66 hg, b_Cp_terms_71, q, c_refuse hg (v := (-1 : Int32)) (r := 1) (by decide) (by decide) (by decide), exI, exJ, exV, eq_self, true_and, and_true, true_or, or_true, if_true, if_false, not_true, not_false_eq_true, false_and, and_false, decide_true, decide_false, bi_T, bi_F, bi_0, bi_1, bi_z, bft, n10, n01, Nat.reduceEqDiff, Nat.reduceLT, Nat.reduceAdd, Nat.reduceMul, reduceCtorEq]; exact hq
    · simp (disch := omega) only [e_Mo_terms, b_Mo_terms_0 hg, b_Mo_terms_10, b_Mo_terms_13 hg, b_Mo_terms_21, b_Mo_terms_24 hg, b_Mo_terms_29, c_isTermX (Or.inl q), tl_rf (v := (-1 : Int32)) (r := 1) h (by decide) (by decide) (by decide), exI, exJ, exV, eq_self, true_and, and_true, true_or, or_true, if_true, if_false, not_true, not_false_eq_true, false_and, and_false, decide_true, decide_false, bi_T, bi_F, bi_0, bi_1, bi_z, bft, n10, n01, Nat.reduceEqDiff, Nat.reduceLT, Nat.reduceAdd, Nat.reduceMul, reduceCtorEq]; exact hq
  · refine both_r h (-1) 1 (by decide) (by decide) (fun Q hq => ?_) (fun Q hq => ?_)
    · simp (disch := omega) only [e_Cp_terms, b_Cp_terms_0, b_Cp_terms_4, b_Cp_terms_10 hg, b_Cp_terms_19 hg, b_Cp_terms_28 hg, b_Cp_terms_33, b_Cp_terms_34 hg, b_Cp_terms_58, b_Cp_terms_62 hg, b_Cp_terms_66 hg, b_Cp_terms_71, q1, q2, c_refuse hg (v := (-1 : Int32)) (r := 1) (by decide) (by decide) (by decide), exI, exJ, exV, eq_self, true_and, and_true, true_or, or_true, if_true, if_false, not_true, not_false_eq_true, false_and, and_false, decide_true, decide_false, bi_T, bi_F, bi_0, bi_1, bi_z, bft, n10, n01, Nat.reduceEqDiff, Nat.reduceLT, Nat.reduceAdd, Nat.reduceMul, reduceCtorEq]; exact hq
    · simp (disch := omega) only [e_Mo_terms, b_Mo_terms_0 hg, b_Mo_terms_10, b_Mo_terms_13 hg, b_Mo_terms_21, b_Mo_terms_24 hg, b_Mo_terms_29, c_isTermX (Or.inr q2), tl_rf (v := (-1 : Int32)) (r := 1) h (by decide) (by decide) (by decide), exI, exJ, exV, eq_self, true_and, and_true, true_or, or_true, if_true, if_false, not_true, not_false_eq_true, false_and, and_false, decide_true, decide_false, bi_T, bi_F, bi_0, bi_1, bi_z, bft, n10, n01, Nat.reduceEqDiff, Nat.reduceLT, Nat.reduceAdd, Nat.reduceMul, reduceCtorEq]; exact hq
  have hlo : I 2 k = nI (loT k) := by
    obtain ⟨a1, a2⟩ := h.2.2.2.2.2.2.2.1
    unfold loT
    by_cases e : k = 0
    · rw [e, if_pos rfl]; exact a1
    · rw [if_neg e]; exact a2 k (by omega) hk
  have hhi : I 3 k = nI (hiT k) := by
    obtain ⟨a0, a1, a2, a3, a4, a5, a6⟩ := h.2.2.2.2.2.2.2.2.1
    have hc : k = 0 ∨ k = 1 ∨ k = 2 ∨ k = 3 ∨ k = 4 ∨ k = 5 ∨ k = 6 := by omega
    rcases hc with rfl | rfl | rfl | rfl | rfl | rfl | rfl <;> assumption
  have hl2 : loT k ≤ 2 := by unfold loT; split <;> omega
  have hh2 : hiT k ≤ 32 := by
    have hc : k = 0 ∨ k = 1 ∨ k = 2 ∨ k = 3 ∨ k = 4 ∨ k = 5 ∨ k = 6 := by omega
    rcases hc with rfl | rfl | rfl | rfl | rfl | rfl | rfl <;> decide
  by_cases q1 : x < nI (loT k)
  · refine both_r h (-1) 1 (by decide) (by decide) (fun Q hq => ?_) (fun Q hq => ?_)
    · simp (disch := omega) only [e_Cp_terms, b_Cp_terms_0, b_Cp_terms_4, b_Cp_terms_10 hg, b_Cp_terms_19 hg, b_Cp_terms_28 hg, b_Cp_terms_33, b_Cp_terms_34 hg, b_Cp_terms_58, b_Cp_terms_62 hg, b_Cp_terms_66 hg, b_Cp_terms_71, ↓reduceIte, nadd, nmul, nsub, nlt, neq, ncl, nvi, ndiv, nrem, nand, nor, nxor, nshl, nshr, Nat.not_lt_zero, hk, hlo, q1, c_refuse hg (v := (-1 : Int32)) (r := 1) (by decide) (by decide) (by decide), exI, exJ, exV, eq_self, true_and, and_true, true_or, or_true, if_true, if_false, not_true, not_false_eq_true, false_and, and_false, decide_true, decide_false, bi_T, bi_F, bi_0, bi_1, bi_z, bft, n10, n01, Nat.reduceEqDiff, Nat.reduceLT, Nat.reduceAdd, Nat.reduceMul, reduceCtorEq]; exact hq
    · simp (disch := omega) only [e_Mo_terms, b_Mo_terms_0 hg, b_Mo_terms_10, b_Mo_terms_13 hg, b_Mo_terms_21, b_Mo_terms_24 hg, b_Mo_terms_29, c_isTerm, q1, tl_rf (v := (-1 : Int32)) (r := 1) h (by decide) (by decide) (by decide), exI, exJ, exV, eq_self, true_and, and_true, true_or, or_true, if_true, if_false, not_true, not_false_eq_true, false_and, and_false, decide_true, decide_false, bi_T, bi_F, bi_0, bi_1, bi_z, bft, n10, n01, Nat.reduceEqDiff, Nat.reduceLT, Nat.reduceAdd, Nat.reduceMul, reduceCtorEq]; exact hq
  by_cases q2 : nI (hiT k) < x
  · refine both_r h (-1) 1 (by decide) (by decide) (fun Q hq => ?_) (fun Q hq => ?_)
    · simp (disch := omega) only [e_Cp_terms, b_Cp_terms_0, b_Cp_terms_4, b_Cp_terms_10 hg, b_Cp_terms_19 hg, b_Cp_terms_28 hg, b_Cp_terms_33, b_Cp_terms_34 hg, b_Cp_terms_58, b_Cp_terms_62 hg, b_Cp_terms_66 hg, b_Cp_terms_71, ↓reduceIte, nadd, nmul, nsub, nlt, neq, ncl, nvi, ndiv, nrem, nand, nor, nxor, nshl, nshr, Nat.not_lt_zero, hk, hlo, hhi, q1, q2, c_refuse hg (v := (-1 : Int32)) (r := 1) (by decide) (by decide) (by decide), exI, exJ, exV, eq_self, true_and, and_true, true_or, or_true, if_true, if_false, not_true, not_false_eq_true, false_and, and_false, decide_true, decide_false, bi_T, bi_F, bi_0, bi_1, bi_z, bft, n10, n01, Nat.reduceEqDiff, Nat.reduceLT, Nat.reduceAdd, Nat.reduceMul, reduceCtorEq]; exact hq
    · simp (disch := omega) only [e_Mo_terms, b_Mo_terms_0 hg, b_Mo_terms_10, b_Mo_terms_13 hg, b_Mo_terms_21, b_Mo_terms_24 hg, b_Mo_terms_29, c_isTerm, q1, q2, tl_rf (v := (-1 : Int32)) (r := 1) h (by decide) (by decide) (by decide), exI, exJ, exV, eq_self, true_and, and_true, true_or, or_true, if_true, if_false, not_true, not_false_eq_true, false_and, and_false, decide_true, decide_false, bi_T, bi_F, bi_0, bi_1, bi_z, bft, n10, n01, Nat.reduceEqDiff, Nat.reduceLT, Nat.reduceAdd, Nat.reduceMul, reduceCtorEq]; exact hq
  obtain ⟨m, rfl, m1, m2⟩ := irng (by omega) (by omega) q1 q2
  have hv : (k = 0 → 2 ≤ m ∧ m ≤ 32) ∧ (k = 1 → m ≤ 16) ∧ (k = 2 → m ≤ 3) ∧ (k = 3 → m ≤ 1) ∧ (k = 4 → m ≤ 6) ∧ (k = 5 → m ≤ 31) ∧ (k = 6 → m ≤ 31) := by
    unfold loT at m1
    unfold hiT at m2
    refine ⟨fun e => ?_, fun e => ?_, fun e => ?_, fun e => ?_, fun e => ?_, fun e => ?_, fun e => ?_⟩ <;> subst e <;> simp only [if_true, Nat.reduceEqDiff, if_false, exI, exJ, exV, eq_self, true_and, and_true, true_or, or_true, if_true, if_false, not_true, not_false_eq_true, false_and, and_false, decide_true, decide_false, bi_T, bi_F, bi_0, bi_1, bi_z, bft, n10, n01, Nat.reduceEqDiff, Nat.reduceLT, Nat.reduceAdd, Nat.reduceMul, reduceCtorEq] at m1 m2 <;> omega
  -- the rest, from the state after the maker was told
  have rest : ∀ I2 : Nat → Nat → Int32, (∀ a j, ¬ (a = 10 ∧ j = k) → a ≠ 39 → ¬ (a = 44 ∧ j = 0) → ¬ (a = 49 ∧ k = 0) → ¬ (a = 84 ∧ k = 0) → I2 a j = I a j) → I2 10 k = nI m → (∀ b, b < 12 → I2 39 b = nI 0) → I2 44 0 = nI 0 → (k = 0 → ∀ T, MC (u2 S 10 k m) T g I2 J) → ∀ v1 v2, a_wp aTab aMX (d + 2) m_Cp_terms 66 [.ref 6, v1, v2, .int (nI (S 10 k))] [] (g, I2, J) (fun v h2 => ∃ i : Int32, v = some (.int i) ∧ h2.2.1 1 = X ∧ gN h2.1 1 = N ∧ a_call aTab aMX (d + 3) m_Mo_terms [.ref 89, .int (nI k), .int (nI m)] h2 (fun v3 h3 => ∃ i3 : Int32, v3 = some (.int i3) ∧ i = i3 ∧ INVx N X h3)) := by
    intro I2 f1 f2 f3 f4 f5 v1 v2
    simp (disch := omega) only [b_Cp_terms_66 hg, b_Cp_terms_71, c_accept hg, exI, exJ, exV, eq_self, true_and, and_true, true_or, or_true, if_true, if_false, not_true, not_false_eq_true, false_and, and_false, decide_true, decide_false, bi_T, bi_F, bi_0, bi_1, bi_z, bft, n10, n01, Nat.reduceEqDiff, Nat.reduceLT, Nat.reduceAdd, Nat.reduceMul, reduceCtorEq]
    refine ⟨by rw [← h.2.1]; funext j; rw [u2_n (by omega), f1 1 j (by omega) (by omega) (by omega) (by omega) (by omega)], h.1.2.2.1, ?_⟩
    rw [e_Mo_terms, b_Mo_terms_0 hg]
    have e91 : (u2 (u2 I2 6 14 (nI 0)) 89 0 (nI 0)) 91 = I 91 := by funext i; rw [u2_n (by omega), u2_n (by omega), f1 91 i (by omega) (by omega) (by omega) (by omega) (by omega)]
    simp (disch := omega) only [b_Mo_terms_10, b_Mo_terms_13 hg, b_Mo_terms_21, b_Mo_terms_24 hg, b_Mo_terms_29, c_isTerm, q1, q2, nadd, c_change hg, e91, ms2 hM, exI, exJ, exV, eq_self, true_and, and_true, true_or, or_true, if_true, if_false, not_true, not_false_eq_true, false_and, and_false, decide_true, decide_false, bi_T, bi_F, bi_0, bi_1, bi_z, bft, n10, n01, Nat.reduceEqDiff, Nat.reduceLT, Nat.reduceAdd, Nat.reduceMul, reduceCtorEq]
    refine INVx_i (INV_sm (S' := u2 S 10 k m) h (fun a j y1 y2 y3 y4 y5 y6 y7 y8 => ?_) ?_ ?_ ?_ (fun b hb => ?_) ?_ ⟨fun a j y1 y2 => ?_, ?_⟩ ?_ (fun i hi => ?_) ?_)
    · simp (disch := omega) only [u2_n, f1]
    · simp (disch := omega) only [u2_n, u2_s]
    · simp (disch := omega) only [u2_n, u2_s]
    · exact u2_s
    · simp (disch := omega) only [u2_n, f3]
    · simp (disch := omega) only [u2_n, f4]
    · simp (disch := omega) only [u2_n]
      by_cases e : a = 10 ∧ j = k
      · rw [e.1, e.2, u2_s]; exact f2
      · rw [f1 a j e (by omega) (by omega) (by omega) (by omega), u2_n e]; exact hS.1 a j y1 y2
    · exact SBu hB (by omega) (by omega) (by omega) (by omega) (by omega) (by omega) (fun _ => hv)
    · refine MS_10 hM hk (fun i hi => ?_) ?_
      · simp (disch := omega) only [u2_n, f1]
      · simp (disch := omega) only [u2_n, u2_s]
    · simp (disch := omega) only [u2_n, f1]
    · by_cases e : k = 0
      · exact MC_c h.1.2.2.2.1 (fun a y1 y2 => funext (fun j => by simp (disch := omega) only [u2_n])) ⟨rfl, rfl⟩ (fun a y1 _ _ => ⟨funext (fun j => by simp (disch := omega) only [u2_n]), rfl⟩) (f5 e _)
      · exact MC_k h (by rw [u2_r (by decide)]) (by rw [u2_k (Ne.symm e)]) (fun a j y1 y2 => by simp (disch := omega) only [u2_n, f1])
  unfold BOTH
  simp (disch := omega) only [e_Cp_terms, b_Cp_terms_0, b_Cp_terms_4, b_Cp_terms_10 hg, b_Cp_terms_19 hg, b_Cp_terms_34 hg, ↓reduceIte, nadd, nmul, nsub, nlt, neq, ncl, nvi, ndiv, nrem, nand, nor, nxor, nshl, nshr, Nat.not_lt_zero, hk, hlo, hhi, q1, q2, cs10 hS, c_chHands hg, exI, exJ, exV, eq_self, true_and, and_true, true_or, or_true, if_true, if_false, not_true, not_false_eq_true, false_and, and_false, decide_true, decide_false, bi_T, bi_F, bi_0, bi_1, bi_z, bft, n10, n01, Nat.reduceEqDiff, Nat.reduceLT, Nat.reduceAdd, Nat.reduceMul, reduceCtorEq]
  rw [b_Cp_terms_58]
  by_cases e : k = 0
  · rw [if_pos (by rw [e]), b_Cp_terms_62 hg, e_Cp_changeCast, b_Cp_changeCast_0 hg]
    refine c_forget hg (fun I2 f1 f2 f3 f4 => ?_)
    simp only [exV, true_and]
    rw [b_Cp_changeCast_7]
    simp only [exV, true_and]
    refine rest I2 (fun a j y1 y2 y3 y4 y5 => ?_) ?_ (fun b hb => ?_) ?_ (fun _ T => MC_0 f2 f3 f4) _ _
    · rw [f1 a j (by omega) (by omega)]; simp (disch := omega) only [u2_n, fl2_n]
    · rw [f1 10 k (by omega) (by omega)]; simp (disch := omega) only [u2_n, fl2_n, u2_s]
    · rw [f1 39 b (by omega) (by omega)]; simp (disch := omega) only [u2_n, fl2_in]
    · rw [f1 44 0 (by omega) (by omega)]; exact u2_s
  · rw [if_neg (by rw [neq (by omega) (by omega)]; exact e)]
    refine rest _ (fun a j y1 y2 y3 y4 y5 => ?_) ?_ (fun b hb => ?_) ?_ (fun z => absurd z e) _ _
    · simp (disch := omega) only [u2_n, fl2_n]
    · simp (disch := omega) only [u2_n, fl2_n, u2_s]
    · simp (disch := omega) only [u2_n, fl2_in]
    · exact u2_s
end SC3
