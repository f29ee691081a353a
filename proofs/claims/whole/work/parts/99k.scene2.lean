/-! ===== figure, sticks, terms, on, off: the calls ===== -/
def loT (k : Nat) : Nat := if k = 0 then 2 else 0
def hiT (k : Nat) : Nat := if k = 0 then 32 else if k = 1 then 16 else if k = 2 then 3 else if k = 3 then 1 else if k = 4 then 6 else 31
theorem ltS {x : Int32} {n : Nat} (hn : n < 1000000) : (x < nI (n + 1)) = ¬ (nI n < x) := by
  rw [fa_lt, fa_lt, nI_toInt (by omega), nI_toInt (by omega)]
  apply propext
  omega
theorem lt0' {x : Int32} : (x < nI 1) = (¬ nI 0 < x) := ltS (by decide)
section SC2
variable {N : Nat} {X : Nat → Int32} {ow : Nat → Nat} {S : Nat → Nat → Nat} {LF : aLF} {g : aG} {I : Nat → Nat → Int32} {J : Nat → Nat → Int64} {Q : aQ} {d : Nat}
theorem tell0 (hg : Geo g) {n : Nat} (hn : n < 2147483648) : a_call aTab aMX (d + 1) m_Mo_tell [.ref 89, .int (nI n)] (g, I, J) Q = Q (some (.int (nI n))) (g, u2 (u2 I 89 1 (nI 0)) 89 36 (nI 0), J) := c_tellN hg (by rw [nlt hn (by decide)]; omega)
theorem m_figure {x : Int32} (h : INV N X ow S LF g I J) : BOTH N X (d + 3) m_Cp_figure m_Mo_figure [.int x] (g, I, J) := by
  have hg := h.1.1
  have hS := h.2.2.1.1
  have hB := hS.2
  have h7 := sb7 hB 0
  have hM := h.2.2.1.2.1
  by_cases q1 : x < nI 1
  · refine both_r h (-1) 1 (by decide) (by decide) (fun Q hq => ?_) (fun Q hq => ?_)
    · simp (disch := omega) only [e_Cp_figure, b_Cp_figure_0, b_Cp_figure_5, b_Cp_figure_10 hg, b_Cp_figure_15, b_Cp_figure_16 hg, b_Cp_figure_28 hg, b_Cp_figure_34, b_Cp_figure_35 hg, b_Cp_figure_67 hg, b_Cp_figure_72, q1, c_refuse hg (v := (-1 : Int32)) (r := 1) (by decide) (by decide) (by decide), exI, exJ, exV, eq_self, true_and, and_true, true_or, or_true, if_true, if_false, not_true, not_false_eq_true, false_and, and_false, decide_true, decide_false, bi_T, bi_F, bi_0, bi_1, bi_z, bft, n10, n01, Nat.reduceEqDiff, Nat.reduceLT, Nat.reduceAdd, Nat.reduceMul, reduceCtorEq]; exact hq
    · simp (disch := omega) only [e_Mo_figure, b_Mo_figure_0 hg, b_Mo_figure_14, b_Mo_figure_17 hg, b_Mo_figure_22, b_Mo_figure_23 hg, b_Mo_figure_36 hg, b_Mo_figure_42, b_Mo_figure_43 hg, b_Mo_figure_68, c_inI, q1, tl_rf (v := (-1 : Int32)) (r := 1) h (by decide) (by decide) (by decide), exI, exJ, exV, eq_self, true_and, and_true, true_or, or_true, if_true, if_false, not_true, not_false_eq_true, false_and, and_false, decide_true, decide_false, bi_T, bi_F, bi_0, bi_1, bi_z, bft, n10, n01, Nat.reduceEqDiff, Nat.reduceLT, Nat.reduceAdd, Nat.reduceMul, reduceCtorEq]; exact hq
  by_cases q2 : nI 2 < x
  · refine both_r h (-1) 1 (by decide) (by decide) (fun Q hq => ?_) (fun Q hq => ?_)
    · simp (disch := omega) only [e_Cp_figure, b_Cp_figure_0, b_Cp_figure_5, b_Cp_figure_10 hg, b_Cp_figure_15, b_Cp_figure_16 hg, b_Cp_figure_28 hg, b_Cp_figure_34, b_Cp_figure_35 hg, b_Cp_figure_67 hg, b_Cp_figure_72, q1, q2, c_refuse hg (v := (-1 : Int32)) (r := 1) (by decide) (by decide) (by decide), exI, exJ, exV, eq_self, true_and, and_true, true_or, or_true, if_true, if_false, not_true, not_false_eq_true, false_and, and_false, decide_true, decide_false, bi_T, bi_F, bi_0, bi_1, bi_z, bft, n10, n01, Nat.reduceEqDiff, Nat.reduceLT, Nat.reduceAdd, Nat.reduceMul, reduceCtorEq]; exact hq
    · simp (disch := omega) only [e_Mo_figure, b_Mo_figure_0 hg, b_Mo_figure_14, b_Mo_figure_17 hg, b_Mo_figure_22, b_Mo_figure_23 hg, b_Mo_figure_36 hg, b_Mo_figure_42, b_Mo_figure_43 hg, b_Mo_figure_68, c_inI, q1, q2, tl_rf (v := (-1 : Int32)) (r := 1) h (by decide) (by decide) (by decide), exI, exJ, exV, eq_self, true_and, and_true, true_or, or_true, if_true, if_false, not_true, not_false_eq_true, false_and, and_false, decide_true, decide_false, bi_T, bi_F, bi_0, bi_1, bi_z, bft, n10, n01, Nat.reduceEqDiff, Nat.reduceLT, Nat.reduceAdd, Nat.reduceMul, reduceCtorEq]; exact hq
  by_cases q3 : S 7 0 < 6
  rotate_left
  · have q4 : S 7 0 = 6 := by omega
    have hMr := hMr (v := (-5 : Int32)) (r := 5) h
    refine both_r h (-5) 5 (by decide) (by decide) (fun Q hq => ?_) (fun Q hq => ?_)
    · simp (disch := omega) only [e_Cp_figure, b_Cp_figure_0, b_Cp_figure_5, b_Cp_figure_10 hg, b_Cp_figure_15, b_Cp_figure_16 hg, b_Cp_figure_28 hg, b_Cp_figure_34, b_Cp_figure_35 hg, b_Cp_figure_67 hg, b_Cp_figure_72, q1, q2, cs7 hS, ↓reduceIte, nadd, nmul, nsub, nlt, neq, ncl, nvi, ndiv, nrem, nand, nor, nxor, nshl, nshr, q3, c_refuse hg (v := (-5 : Int32)) (r := 5) (by decide) (by decide) (by decide), exI, exJ, exV, eq_self, true_and, and_true, true_or, or_true, if_true, if_false, not_true, not_false_eq_true, false_and, and_false, decide_true, decide_false, bi_T, bi_F, bi_0, bi_1, bi_z, bft, n10, n01, Nat.reduceEqDiff, Nat.reduceLT, Nat.reduceAdd, Nat.reduceMul, reduceCtorEq]; exact hq
    · simp (disch := omega) only [e_Mo_figure, b_Mo_figure_0 hg, b_Mo_figure_14, b_Mo_figure_17 hg, b_Mo_figure_22, b_Mo_figure_23 hg, b_Mo_figure_36 hg, b_Mo_figure_42, b_Mo_figure_43 hg, b_Mo_figure_68, c_inI, q1, q2, ncl, ms0 hMr, q4, tl_rf (v := (-5 : Int32)) (r := 5) h (by decide) (by decide) (by decide), exI, exJ, exV, eq_self, true_and, and_true, true_or, or_true, if_true, if_false, not_true, not_false_eq_true, false_and, and_false, decide_true, decide_false, bi_T, bi_F, bi_0, bi_1, bi_z, bft, n10, n01, Nat.reduceEqDiff, Nat.reduceLT, Nat.reduceAdd, Nat.reduceMul, reduceCtorEq]; exact hq
  have q4 : ¬ S 7 0 = 6 := by omega
  obtain ⟨m, rfl, m1, m2⟩ := irng (by decide) (by decide) q1 q2
  unfold BOTH
  simp (disch := omega) only [e_Cp_figure, b_Cp_figure_0, b_Cp_figure_5, b_Cp_figure_10 hg, b_Cp_figure_15, b_Cp_figure_16 hg, b_Cp_figure_28 hg, b_Cp_figure_34, b_Cp_figure_35 hg, b_Cp_figure_67 hg, b_Cp_figure_72, q1, q2, cs7 hS, ↓reduceIte, nadd, nmul, nsub, nlt, neq, ncl, nvi, ndiv, nrem, nand, nor, nxor, nshl, nshr, q3, c_chHands hg, c_accept hg, exI, exJ, exV, eq_self, true_and, and_true, true_or, or_true, if_true, if_false, not_true, not_false_eq_true, false_and, and_false, decide_true, decide_false, bi_T, bi_F, bi_0, bi_1, bi_z, bft, n10, n01, Nat.reduceEqDiff, Nat.reduceLT, Nat.reduceAdd, Nat.reduceMul, reduceCtorEq]
  refine ⟨by rw [← h.2.1]; funext j; simp (disch := omega) only [u2_n, fl2_n], h.1.2.2.1, ?_⟩
  simp (disch := omega) only [e_Mo_figure, b_Mo_figure_0 hg, b_Mo_figure_14, b_Mo_figure_17 hg, b_Mo_figure_22, b_Mo_figure_23 hg, b_Mo_figure_36 hg, b_Mo_figure_42, b_Mo_figure_43 hg, b_Mo_figure_68, c_inI, q1, q2, ncl, u2_n, fl2_n, ms0 hM, neq, q4, nadd, nvi, tell0 hg, exI, exJ, exV, eq_self, true_and, and_true, true_or, or_true, if_true, if_false, not_true, not_false_eq_true, false_and, and_false, decide_true, decide_false, bi_T, bi_F, bi_0, bi_1, bi_z, bft, n10, n01, Nat.reduceEqDiff, Nat.reduceLT, Nat.reduceAdd, Nat.reduceMul, reduceCtorEq]
  refine INVx_i (INV_sm (S' := u2 (u2 S 9 (S 7 0) m) 7 0 (S 7 0 + 1)) h (fun a j y1 y2 y3 y4 y5 y6 y7 y8 => ?_) ?_ ?_ ?_ (fun b hb => ?_) ?_ ⟨fun a j y1 y2 => ?_, ?_⟩ ?_ (fun i hi => ?_) (MC_k h (by rw [u2_r (by decide), u2_r (by decide)]) (by rw [u2_a (by decide), u2_a (by decide)]) (fun a j y1 y2 => ?_)))
  · simp (disch := omega) only [u2_n, fl2_n]
  · simp (disch := omega) only [u2_n, u2_s]
  · simp (disch := omega) only [u2_n, u2_s]
  · exact u2_s
  · simp (disch := omega) only [u2_n, fl2_in]
  · simp (disch := omega) only [u2_n, u2_s]
  · have := CSu (p := 7) (k := 0) (v := S 7 0 + 1) (CSu (p := 9) (k := S 7 0) (v := m) hS.1) a j y1 y2
    rw [← this]
    simp (disch := omega) only [u2_n, fl2_n]
  · refine SBu (SBu hB (by omega) (by omega) (by omega) (by omega) (by omega) (by omega) (by omega)) (by omega) (fun _ => ⟨by omega, fun f hf => ?_⟩) (by omega) (by omega) (by omega) (by omega) (by omega)
    by_cases e : f = S 7 0
    · rw [e, u2_s]; exact m1
    · rw [u2_k e]; exact sb9p hB (by omega)
  · refine MS_7 (W := fun i => u2 (fun _ => I 91) 91 (10 + S 7 0) (nI m) 91 i) (MS_9 hM (by omega) (fun i hi => u2_k hi) u2_s) (fun i hi => ?_) ?_
    · simp (disch := omega) only [u2_n]
      by_cases e : i = 10 + S 7 0
      · rw [e, u2_s, u2_s]
      · simp (disch := omega) only [u2_n, fl2_n]
    · simp (disch := omega) only [u2_n, u2_s]
  · simp (disch := omega) only [u2_n, fl2_n]
  · simp (disch := omega) only [u2_n, fl2_n]
theorem m_sticks {f x : Int32} (h : INV N X ow S LF g I J) : BOTH N X (d + 3) m_Cp_sticks m_Mo_sticks [.int f, .int x] (g, I, J) := by
  have hg := h.1.1
  have hS := h.2.2.1.1
  have hB := hS.2
  have h7 := sb7 hB 0
  have hM := h.2.2.1.2.1
  by_cases q1 : x < nI 1
  · refine both_r h (-1) 1 (by decide) (by decide) (fun Q hq => ?_) (fun Q hq => ?_)
    · simp (disch := omega) only [e_Cp_sticks, b_Cp_sticks_0, b_Cp_sticks_5, b_Cp_sticks_10 hg, b_Cp_sticks_15, b_Cp_sticks_16 hg, b_Cp_sticks_24, b_Cp_sticks_27 hg, b_Cp_sticks_33, b_Cp_sticks_34 hg, b_Cp_sticks_58 hg, b_Cp_sticks_63, q1, c_refuse hg (v := (-1 : Int32)) (r := 1) (by decide) (by decide) (by decide), exI, exJ, exV, eq_self, true_and, and_true, true_or, or_true, if_true, if_false, not_true, not_false_eq_true, false_and, and_false, decide_true, decide_false, bi_T, bi_F, bi_0, bi_1, bi_z, bft, n10, n01, Nat.reduceEqDiff, Nat.reduceLT, Nat.reduceAdd, Nat.reduceMul, reduceCtorEq]; exact hq
    · simp (disch := omega) only [e_Mo_sticks, b_Mo_sticks_0 hg, b_Mo_sticks_14, b_Mo_sticks_17 hg, b_Mo_sticks_22, b_Mo_sticks_23 hg, b_Mo_sticks_28, b_Mo_sticks_31 hg, b_Mo_sticks_40, b_Mo_sticks_43 hg, b_Mo_sticks_49, c_inI, q1, tl_rf (v := (-1 : Int32)) (r := 1) h (by decide) (by decide) (by decide), exI, exJ, exV, eq_self, true_and, and_true, true_or, or_true, if_true, if_false, not_true, not_false_eq_true, false_and, and_false, decide_true, decide_false, bi_T, bi_F, bi_0, bi_1, bi_z, bft, n10, n01, Nat.reduceEqDiff, Nat.reduceLT, Nat.reduceAdd, Nat.reduceMul, reduceCtorEq]; exact hq
  by_cases q2 : nI 2 < x
  · refine both_r h (-1) 1 (by decide) (by decide) (fun Q hq => ?_) (fun Q hq => ?_)
    · simp (disch := omega) only [e_Cp_sticks, b_Cp_sticks_0, b_Cp_sticks_5, b_Cp_sticks_10 hg, b_Cp_sticks_15, b_Cp_sticks_16 hg, b_Cp_sticks_24, b_Cp_sticks_27 hg, b_Cp_sticks_33, b_Cp_sticks_34 hg, b_Cp_sticks_58 hg, b_Cp_sticks_63, q1, q2, c_refuse hg (v := (-1 : Int32)) (r := 1) (by decide) (by decide) (by decide), exI, exJ, exV, eq_self, true_and, and_true, true_or, or_true, if_true, if_false, not_true, not_false_eq_true, false_and, and_false, decide_true, decide_false, bi_T, bi_F, bi_0, bi_1, bi_z, bft, n10, n01, Nat.reduceEqDiff, Nat.reduceLT, Nat.reduceAdd, Nat.reduceMul, reduceCtorEq]; exact hq
    · simp (disch := omega) only [e_Mo_sticks, b_Mo_sticks_0 hg, b_Mo_sticks_14, b_Mo_sticks_17 hg, b_Mo_sticks_22, b_Mo_sticks_23 hg, b_Mo_sticks_28, b_Mo_sticks_31 hg, b_Mo_sticks_40, b_Mo_sticks_43 hg, b_Mo_sticks_49, c_inI, q1, q2, tl_rf (v := (-1 : Int32)) (r := 1) h (by decide) (by decide) (by decide), exI, exJ, exV, eq_self, true_and, and_true, true_or, or_true, if_true, if_false, not_true, not_false_eq_true, false_and, and_false, decide_true, decide_false, bi_T, bi_F, bi_0, bi_1, bi_z, bft, n10, n01, Nat.reduceEqDiff, Nat.reduceLT, Nat.reduceAdd, Nat.reduceMul, reduceCtorEq]; exact hq
  cases hf : hasS S f with
  | false =>
    refine both_r h (-2) 2 (by decide) (by decide) (fun Q hq => ?_) (fun Q hq => ?_)
    · simp (disch := omega) only [e_Cp_sticks, b_Cp_sticks_0, b_Cp_sticks_5, b_Cp_sticks_10 hg, b_Cp_sticks_15, b_Cp_sticks_16 hg, b_Cp_sticks_24, b_Cp_sticks_27 hg, b_Cp_sticks_33, b_Cp_sticks_34 hg, b_Cp_sticks_58 hg, b_Cp_sticks_63, q1, q2, c_has hg, hasS_I hS, hf, c_refuse hg (v := (-2 : Int32)) (r := 2) (by decide) (by decide) (by decide), exI, exJ, exV, eq_self, true_and, and_true, true_or, or_true, if_true, if_false, not_true, not_false_eq_true, false_and, and_false, decide_true, decide_false, bi_T, bi_F, bi_0, bi_1, bi_z, bft, n10, n01, Nat.reduceEqDiff, Nat.reduceLT, Nat.reduceAdd, Nat.reduceMul, reduceCtorEq]; exact hq
    · simp (disch := omega) only [e_Mo_sticks, b_Mo_sticks_0 hg, b_Mo_sticks_14, b_Mo_sticks_17 hg, b_Mo_sticks_22, b_Mo_sticks_23 hg, b_Mo_sticks_28, b_Mo_sticks_31 hg, b_Mo_sticks_40, b_Mo_sticks_43 hg, b_Mo_sticks_49, c_inI, q1, q2, c_isFigure hg hB (hMr h), hf, tl_rf (v := (-2 : Int32)) (r := 2) h (by decide) (by decide) (by decide), exI, exJ, exV, eq_self, true_and, and_true, true_or, or_true, if_true, if_false, not_true, not_false_eq_true, false_and, and_false, decide_true, decide_false, bi_T, bi_F, bi_0, bi_1, bi_z, bft, n10, n01, Nat.reduceEqDiff, Nat.reduceLT, Nat.reduceAdd, Nat.reduceMul, reduceCtorEq]; exact hq
  | true =>
  obtain ⟨n, hn, rfl⟩ := hasS_of hB hf
  obtain ⟨m, rfl, m1, m2⟩ := irng (by decide) (by decide) q1 q2
  unfold BOTH
  simp (disch := omega) only [e_Cp_sticks, b_Cp_sticks_0, b_Cp_sticks_5, b_Cp_sticks_10 hg, b_Cp_sticks_15, b_Cp_sticks_16 hg, b_Cp_sticks_24, b_Cp_sticks_27 hg, b_Cp_sticks_33, b_Cp_sticks_34 hg, b_Cp_sticks_58 hg, b_Cp_sticks_63, q1, q2, c_has hg, hasS_I hS, hf, ↓reduceIte, nadd, nmul, nsub, nlt, neq, ncl, nvi, ndiv, nrem, nand, nor, nxor, nshl, nshr, cs9 hS, c_chHands hg, c_accept hg, exI, exJ, exV, eq_self, true_and, and_true, true_or, or_true, if_true, if_false, not_true, not_false_eq_true, false_and, and_false, decide_true, decide_false, bi_T, bi_F, bi_0, bi_1, bi_z, bft, n10, n01, Nat.reduceEqDiff, Nat.reduceLT, Nat.reduceAdd, Nat.reduceMul, reduceCtorEq]
  refine ⟨by rw [← h.2.1]; funext j; simp (disch := omega) only [u2_n, fl2_n], h.1.2.2.1, ?_⟩
  rw [e_Mo_sticks, b_Mo_sticks_0 hg]
  generalize eIc : u2 (u2 (u2 (fl2 (u2 I 9 n (nI m)) 39 0 12 (nI 0)) 44 0 (nI 0)) 6 14 (nI 0)) 89 0 (nI 0) = Ic
  have e91 : Ic 91 = I 91 := by rw [← eIc]; funext i; simp (disch := omega) only [u2_n, fl2_n]
  have hMc : MS S (I 14) (Ic 91) := by rw [e91]; exact hM
  simp (disch := omega) only [b_Mo_sticks_14, b_Mo_sticks_17 hg, b_Mo_sticks_22, b_Mo_sticks_23 hg, b_Mo_sticks_28, b_Mo_sticks_31 hg, b_Mo_sticks_40, b_Mo_sticks_43 hg, b_Mo_sticks_49, c_inI, q1, q2, c_isFigure hg hB hMc, hf, nadd, c_change hg, e91, ms10 hM, exI, exJ, exV, eq_self, true_and, and_true, true_or, or_true, if_true, if_false, not_true, not_false_eq_true, false_and, and_false, decide_true, decide_false, bi_T, bi_F, bi_0, bi_1, bi_z, bft, n10, n01, Nat.reduceEqDiff, Nat.reduceLT, Nat.reduceAdd, Nat.reduceMul, reduceCtorEq]
  rw [← eIc]
  refine INVx_i (INV_sm (S' := u2 S 9 n m) h (fun a j y1 y2 y3 y4 y5 y6 y7 y8 => ?_) ?_ ?_ ?_ (fun b hb => ?_) ?_ ⟨fun a j y1 y2 => ?_, ?_⟩ ?_ (fun i hi => ?_) (MC_k h (by rw [u2_r (by decide)]) (by rw [u2_a (by decide)]) (fun a j y1 y2 => ?_)))
  · simp (disch := omega) only [u2_n, fl2_n]
  · simp (disch := omega) only [u2_n, u2_s]
  · simp (disch := omega) only [u2_n, u2_s]
  · exact u2_s
  · simp (disch := omega) only [u2_n, fl2_in]
  · simp (disch := omega) only [u2_n, u2_s]
  · rw [← CSu (p := 9) (k := n) (v := m) hS.1 a j y1 y2]
    simp (disch := omega) only [u2_n, fl2_n]
  · exact SBu hB (by omega) (by omega) (by omega) (by omega) (by omega) (by omega) (by omega)
  · refine MS_9 hM (by omega) (fun i hi => ?_) ?_
    · simp (disch := omega) only [u2_n, fl2_n]
    · simp (disch := omega) only [u2_n, u2_s]
  · simp (disch := omega) only [u2_n, fl2_n]
  · simp (disch := omega) only [u2_n, fl2_n]
end SC2
