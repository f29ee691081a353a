/-! ===== calls that only tell ===== -/
section TEL
variable {N : Nat} {X : Nat → Int32} {ow : Nat → Nat} {S : Nat → Nat → Nat} {LF : aLF} {g : aG} {I : Nat → Nat → Int32} {J : Nat → Nat → Int64} {Q : aQ} {d : Nat}
theorem both_i {g1 : aG} {I1 : Nat → Nat → Int32} {J1 : Nat → Nat → Int64} {m1 m2 : Nat} {as : List Value} (v : Int32) (hc : ∀ Q : aQ, Q (some (.int v)) (g1, I1, J1) → a_call aTab aMX d m1 (.ref 6 :: as) (g, I, J) Q) (h1 : I1 1 = X) (hN : gN g1 1 = N) (hm : a_call aTab aMX d m2 (.ref 89 :: as) (g1, I1, J1) (fun v3 h3 => ∃ i3 : Int32, v3 = some (.int i3) ∧ v = i3 ∧ INVx N X h3)) : BOTH N X d m1 m2 as (g, I, J) := hc _ ⟨v, rfl, h1, hN, hm⟩
/-- the class has changed nothing -/
theorem both_t {m1 m2 : Nat} {as : List Value} (h : INV N X ow S LF g I J) (v : Int32) (hc : ∀ Q : aQ, Q (some (.int v)) (g, I, J) → a_call aTab aMX d m1 (.ref 6 :: as) (g, I, J) Q) (hm : ∀ Q : aQ, Q (some (.int v)) (g, u2 I 89 0 (nI 0), J) → a_call aTab aMX d m2 (.ref 89 :: as) (g, I, J) Q) : BOTH N X d m1 m2 as (g, I, J) := both_i v hc h.2.1 h.1.2.2.1 (hm _ ⟨v, rfl, rfl, ow, S, LF, INV_0 h⟩)
theorem hM0 (h : INV N X ow S LF g I J) : MS S (I 14) (u2 I 89 0 (nI 0) 91) := by rw [u2_r (by decide)]; exact h.2.2.1.2.1
theorem m_slipped {x : Int32} (h : INV N X ow S LF g I J) : BOTH N X (d + 3) m_Cp_slipped m_Mo_slipped [.int x] (g, I, J) := by
  have hg := h.1.1
  obtain ⟨-, -, -, s4, s5, -⟩ := h.2.2.2.2.2.1
  by_cases q : I 6 15 = nI 0
  · have q2 : I 89 61 = nI 0 := s4 ▸ q
    refine both_t h (-1) (fun Q hq => ?_) (fun Q hq => ?_)
    · simp (disch := omega) only [e_Cp_slipped, b_Cp_slipped_0 hg, b_Cp_slipped_7, b_Cp_slipped_11, b_Cp_slipped_14 hg, b_Cp_slipped_23, b_Cp_slipped_24, q, exI, exJ, exV, eq_self, true_and, and_true, true_or, or_true, if_true, if_false, not_true, not_false_eq_true, false_and, and_false, decide_true, decide_false, bi_T, bi_F, bi_0, bi_1, bi_z, bft, n10, n01, Nat.reduceEqDiff, Nat.reduceLT, Nat.reduceAdd, Nat.reduceMul, reduceCtorEq]; exact hq
    · simp (disch := omega) only [e_Mo_slipped, b_Mo_slipped_0 hg, b_Mo_slipped_12, b_Mo_slipped_16, b_Mo_slipped_19 hg, b_Mo_slipped_28, b_Mo_slipped_29, u2_k, q2, exI, exJ, exV, eq_self, true_and, and_true, true_or, or_true, if_true, if_false, not_true, not_false_eq_true, false_and, and_false, decide_true, decide_false, bi_T, bi_F, bi_0, bi_1, bi_z, bft, n10, n01, Nat.reduceEqDiff, Nat.reduceLT, Nat.reduceAdd, Nat.reduceMul, reduceCtorEq]; exact hq
  have q2 : ¬ I 89 61 = nI 0 := s4 ▸ q
  cases hb : beI x with
  | false =>
    refine both_t h (-1) (fun Q hq => ?_) (fun Q hq => ?_)
    · simp (disch := omega) only [e_Cp_slipped, b_Cp_slipped_0 hg, b_Cp_slipped_7, b_Cp_slipped_11, b_Cp_slipped_14 hg, b_Cp_slipped_23, b_Cp_slipped_24, q, c_isBeat, hb, exI, exJ, exV, eq_self, true_and, and_true, true_or, or_true, if_true, if_false, not_true, not_false_eq_true, false_and, and_false, decide_true, decide_false, bi_T, bi_F, bi_0, bi_1, bi_z, bft, n10, n01, Nat.reduceEqDiff, Nat.reduceLT, Nat.reduceAdd, Nat.reduceMul, reduceCtorEq]; exact hq
    · simp (disch := omega) only [e_Mo_slipped, b_Mo_slipped_0 hg, b_Mo_slipped_12, b_Mo_slipped_16, b_Mo_slipped_19 hg, b_Mo_slipped_28, b_Mo_slipped_29, u2_k, q2, c_mIsBeat, hb, exI, exJ, exV, eq_self, true_and, and_true, true_or, or_true, if_true, if_false, not_true, not_false_eq_true, false_and, and_false, decide_true, decide_false, bi_T, bi_F, bi_0, bi_1, bi_z, bft, n10, n01, Nat.reduceEqDiff, Nat.reduceLT, Nat.reduceAdd, Nat.reduceMul, reduceCtorEq]; exact hq
  | true =>
    obtain ⟨k, hk, rfl⟩ := beI_of hb
    refine both_t h (I 87 k) (fun Q hq => ?_) (fun Q hq => ?_)
    · simp (disch := omega) only [e_Cp_slipped, b_Cp_slipped_0 hg, b_Cp_slipped_7, b_Cp_slipped_11, b_Cp_slipped_14 hg, b_Cp_slipped_23, b_Cp_slipped_24, q, c_isBeat, hb, exI, exJ, exV, eq_self, true_and, and_true, true_or, or_true, if_true, if_false, not_true, not_false_eq_true, false_and, and_false, decide_true, decide_false, bi_T, bi_F, bi_0, bi_1, bi_z, bft, n10, n01, Nat.reduceEqDiff, Nat.reduceLT, Nat.reduceAdd, Nat.reduceMul, reduceCtorEq, ↓reduceIte, nadd, nmul, nsub, nlt, neq, ncl, nvi, ndiv, nrem, nand, nor, nxor, nshl, nshr]; exact hq
    · rw [s5 k hk] at hq
      simp (disch := omega) only [e_Mo_slipped, b_Mo_slipped_0 hg, b_Mo_slipped_12, b_Mo_slipped_16, b_Mo_slipped_19 hg, b_Mo_slipped_28, b_Mo_slipped_29, u2_k, u2_a, q2, c_mIsBeat, hb, exI, exJ, exV, eq_self, true_and, and_true, true_or, or_true, if_true, if_false, not_true, not_false_eq_true, false_and, and_false, decide_true, decide_false, bi_T, bi_F, bi_0, bi_1, bi_z, bft, n10, n01, Nat.reduceEqDiff, Nat.reduceLT, Nat.reduceAdd, Nat.reduceMul, reduceCtorEq, ↓reduceIte, nadd, nmul, nsub, nlt, neq, ncl, nvi, ndiv, nrem, nand, nor, nxor, nshl, nshr]; exact hq
theorem m_outline {f x : Int32} (h : INV N X ow S LF g I J) : BOTH N X (d + 3) m_Cp_outline m_Mo_outline [.int f, .int x] (g, I, J) := by
  have hg := h.1.1
  have hS := h.2.2.1.1
  have hM := hM0 h
  have hB := hS.2
  have h7 := sb7 hB 0
  cases hf : hasS S f with
  | false =>
    refine both_t h (-1) (fun Q hq => ?_) (fun Q hq => ?_)
    · simp (disch := omega) only [e_Cp_outline, b_Cp_outline_0 hg, b_Cp_outline_8, b_Cp_outline_11, b_Cp_outline_15, b_Cp_outline_21, b_Cp_outline_23 hg, c_has hg, hasS_I hS, hf, exI, exJ, exV, eq_self, true_and, and_true, true_or, or_true, if_true, if_false, not_true, not_false_eq_true, false_and, and_false, decide_true, decide_false, bi_T, bi_F, bi_0, bi_1, bi_z, bft, n10, n01, Nat.reduceEqDiff, Nat.reduceLT, Nat.reduceAdd, Nat.reduceMul, reduceCtorEq]; exact hq
    · simp (disch := omega) only [e_Mo_outline, b_Mo_outline_0 hg, b_Mo_outline_10, b_Mo_outline_13, b_Mo_outline_22, b_Mo_outline_25 hg, b_Mo_outline_42, b_Mo_outline_43, c_isFigure hg hB hM, hf, exI, exJ, exV, eq_self, true_and, and_true, true_or, or_true, if_true, if_false, not_true, not_false_eq_true, false_and, and_false, decide_true, decide_false, bi_T, bi_F, bi_0, bi_1, bi_z, bft, n10, n01, Nat.reduceEqDiff, Nat.reduceLT, Nat.reduceAdd, Nat.reduceMul, reduceCtorEq]; exact hq
  | true =>
    obtain ⟨j, hj, rfl⟩ := hasS_of hB hf
    rcases nIx x 8 (by decide) with w | ⟨w1, w2⟩ | ⟨m, w1, rfl⟩
    · refine both_t h (-1) (fun Q hq => ?_) (fun Q hq => ?_)
      · simp (disch := omega) only [e_Cp_outline, b_Cp_outline_0 hg, b_Cp_outline_8, b_Cp_outline_11, b_Cp_outline_15, b_Cp_outline_21, b_Cp_outline_23 hg, c_has hg, hasS_I hS, hf, w, exI, exJ, exV, eq_self, true_and, and_true, true_or, or_true, if_true, if_false, not_true, not_false_eq_true, false_and, and_false, decide_true, decide_false, bi_T, bi_F, bi_0, bi_1, bi_z, bft, n10, n01, Nat.reduceEqDiff, Nat.reduceLT, Nat.reduceAdd, Nat.reduceMul, reduceCtorEq]; exact hq
      · simp (disch := omega) only [e_Mo_outline, b_Mo_outline_0 hg, b_Mo_outline_10, b_Mo_outline_13, b_Mo_outline_22, b_Mo_outline_25 hg, b_Mo_outline_42, b_Mo_outline_43, c_isFigure hg hB hM, hf, c_inI, w, exI, exJ, exV, eq_self, true_and, and_true, true_or, or_true, if_true, if_false, not_true, not_false_eq_true, false_and, and_false, decide_true, decide_false, bi_T, bi_F, bi_0, bi_1, bi_z, bft, n10, n01, Nat.reduceEqDiff, Nat.reduceLT, Nat.reduceAdd, Nat.reduceMul, reduceCtorEq]; exact hq
    · have hb : nI 7 < x := by
        rw [fa_lt, nI_toInt (by decide)] at w2 ⊢
        omega
      refine both_t h (-1) (fun Q hq => ?_) (fun Q hq => ?_)
      · simp (disch := omega) only [e_Cp_outline, b_Cp_outline_0 hg, b_Cp_outline_8, b_Cp_outline_11, b_Cp_outline_15, b_Cp_outline_21, b_Cp_outline_23 hg, c_has hg, hasS_I hS, hf, w1, w2, exI, exJ, exV, eq_self, true_and, and_true, true_or, or_true, if_true, if_false, not_true, not_false_eq_true, false_and, and_false, decide_true, decide_false, bi_T, bi_F, bi_0, bi_1, bi_z, bft, n10, n01, Nat.reduceEqDiff, Nat.reduceLT, Nat.reduceAdd, Nat.reduceMul, reduceCtorEq]; exact hq
      · simp (disch := omega) only [e_Mo_outline, b_Mo_outline_0 hg, b_Mo_outline_10, b_Mo_outline_13, b_Mo_outline_22, b_Mo_outline_25 hg, b_Mo_outline_42, b_Mo_outline_43, c_isFigure hg hB hM, hf, c_inI, hb, exI, exJ, exV, eq_self, true_and, and_true, true_or, or_true, if_true, if_false, not_true, not_false_eq_true, false_and, and_false, decide_true, decide_false, bi_T, bi_F, bi_0, bi_1, bi_z, bft, n10, n01, Nat.reduceEqDiff, Nat.reduceLT, Nat.reduceAdd, Nat.reduceMul, reduceCtorEq]; exact hq
    · have hz : ¬ 7 < m := by omega
      refine both_t h (nI (S 8 (j * 8 + m))) (fun Q hq => ?_) (fun Q hq => ?_)
      · simp (disch := omega) only [e_Cp_outline, b_Cp_outline_0 hg, b_Cp_outline_8, b_Cp_outline_11, b_Cp_outline_15, b_Cp_outline_21, b_Cp_outline_23 hg, c_has hg, hasS_I hS, hf, ↓reduceIte, nadd, nmul, nsub, nlt, neq, ncl, nvi, ndiv, nrem, nand, nor, nxor, nshl, nshr, w1, Nat.not_lt_zero, cs8 hS, exI, exJ, exV, eq_self, true_and, and_true, true_or, or_true, if_true, if_false, not_true, not_false_eq_true, false_and, and_false, decide_true, decide_false, bi_T, bi_F, bi_0, bi_1, bi_z, bft, n10, n01, Nat.reduceEqDiff, Nat.reduceLT, Nat.reduceAdd, Nat.reduceMul, reduceCtorEq]; exact hq
      · simp (disch := omega) only [e_Mo_outline, b_Mo_outline_0 hg, b_Mo_outline_10, b_Mo_outline_13, b_Mo_outline_22, b_Mo_outline_25 hg, b_Mo_outline_42, b_Mo_outline_43, c_isFigure hg hB hM, hf, c_inI, ↓reduceIte, nadd, nmul, nsub, nlt, neq, ncl, nvi, ndiv, nrem, nand, nor, nxor, nshl, nshr, hz, Nat.not_lt_zero, exI, exJ, exV, eq_self, true_and, and_true, true_or, or_true, if_true, if_false, not_true, not_false_eq_true, false_and, and_false, decide_true, decide_false, bi_T, bi_F, bi_0, bi_1, bi_z, bft, n10, n01, Nat.reduceEqDiff, Nat.reduceLT, Nat.reduceAdd, Nat.reduceMul, reduceCtorEq]
        rw [show 16 + 8 * j + m = 16 + (j * 8 + m) by omega, ms16 hM (by omega)]
        exact hq
theorem m_of {f b x : Int32} (h : INV N X ow S LF g I J) : BOTH N X (d + 4) m_Cp_of m_Mo_of [.int f, .int b, .int x] (g, I, J) := by
  have hg := h.1.1
  have hS := h.2.2.1.1
  have hM := hM0 h
  have hB := hS.2
  have h7 := sb7 hB 0
  cases hf : hasS S f with
  | false =>
    refine both_t h (-1) (fun Q hq => ?_) (fun Q hq => ?_)
    · simp (disch := omega) only [e_Cp_of, b_Cp_of_0 hg, b_Cp_of_8, b_Cp_of_11, b_Cp_of_15, b_Cp_of_18, b_Cp_of_20 hg, b_Cp_of_29, b_Cp_of_35, b_Cp_of_40, b_Cp_of_44, b_Cp_of_45, b_Cp_of_46, b_Cp_of_51, b_Cp_of_53, b_Cp_of_80 hg, b_Cp_of_95 hg, b_Cp_of_110 hg, b_Cp_of_119, b_Cp_of_120, c_has hg, hasS_I hS, hf, exI, exJ, exV, eq_self, true_and, and_true, true_or, or_true, if_true, if_false, not_true, not_false_eq_true, false_and, and_false, decide_true, decide_false, bi_T, bi_F, bi_0, bi_1, bi_z, bft, n10, n01, Nat.reduceEqDiff, Nat.reduceLT, Nat.reduceAdd, Nat.reduceMul, reduceCtorEq]; exact hq
    · simp (disch := omega) only [e_Mo_of, b_Mo_of_0 hg, b_Mo_of_10, b_Mo_of_13, b_Mo_of_17, b_Mo_of_20, b_Mo_of_29, b_Mo_of_32, b_Mo_of_34, b_Mo_of_38 hg, b_Mo_of_45, b_Mo_of_46 hg, b_Mo_of_52, b_Mo_of_55, b_Mo_of_59, b_Mo_of_64 hg, b_Mo_of_70, b_Mo_of_73 hg, b_Mo_of_80, c_isFigure hg hB hM, hf, exI, exJ, exV, eq_self, true_and, and_true, true_or, or_true, if_true, if_false, not_true, not_false_eq_true, false_and, and_false, decide_true, decide_false, bi_T, bi_F, bi_0, bi_1, bi_z, bft, n10, n01, Nat.reduceEqDiff, Nat.reduceLT, Nat.reduceAdd, Nat.reduceMul, reduceCtorEq]; exact hq
  | true =>
    cases hb : beI b with
    | false =>
      refine both_t h (-1) (fun Q hq => ?_) (fun Q hq => ?_)
      · simp (disch := omega) only [e_Cp_of, b_Cp_of_0 hg, b_Cp_of_8, b_Cp_of_11, b_Cp_of_15, b_Cp_of_18, b_Cp_of_20 hg, b_Cp_of_29, b_Cp_of_35, b_Cp_of_40, b_Cp_of_44, b_Cp_of_45, b_Cp_of_46, b_Cp_of_51, b_Cp_of_53, b_Cp_of_80 hg, b_Cp_of_95 hg, b_Cp_of_110 hg, b_Cp_of_119, b_Cp_of_120, c_has hg, hasS_I hS, hf, c_isBeat, hb, exI, exJ, exV, eq_self, true_and, and_true, true_or, or_true, if_true, if_false, not_true, not_false_eq_true, false_and, and_false, decide_true, decide_false, bi_T, bi_F, bi_0, bi_1, bi_z, bft, n10, n01, Nat.reduceEqDiff, Nat.reduceLT, Nat.reduceAdd, Nat.reduceMul, reduceCtorEq]; exact hq
      · simp (disch := omega) only [e_Mo_of, b_Mo_of_0 hg, b_Mo_of_10, b_Mo_of_13, b_Mo_of_17, b_Mo_of_20, b_Mo_of_29, b_Mo_of_32, b_Mo_of_34, b_Mo_of_38 hg, b_Mo_of_45, b_Mo_of_46 hg, b_Mo_of_52, b_Mo_of_55, b_Mo_of_59, b_Mo_of_64 hg, b_Mo_of_70, b_Mo_of_73 hg, b_Mo_of_80, c_isFigure hg hB hM, hf, c_mIsBeat, hb, exI, exJ, exV, eq_self, true_and, and_true, true_or, or_true, if_true, if_false, not_true, not_false_eq_true, false_and, and_false, decide_true, decide_false, bi_T, bi_F, bi_0, bi_1, bi_z, bft, n10, n01, Nat.reduceEqDiff, Nat.reduceLT, Nat.reduceAdd, Nat.reduceMul, reduceCtorEq]; exact hq
    | true =>
      obtain ⟨j, hj, rfl⟩ := hasS_of hB hf
      obtain ⟨k, hk, rfl⟩ := beI_of hb
      have ho : sOn S j k = decide (0 < S 13 (j * 12 + k)) := by unfold sOn; simp only [hj, true_and]
      by_cases q0 : x = nI 0
      · refine both_t h (nI (if 0 < S 13 (j * 12 + k) then 1 else 0)) (fun Q hq => ?_) (fun Q hq => ?_)
        · by_cases q : 0 < S 13 (j * 12 + k) <;> simp only [q, exI, exJ, exV, eq_self, true_and, and_true, true_or, or_true, if_true, if_false, not_true, not_false_eq_true, false_and, and_false, decide_true, decide_false, bi_T, bi_F, bi_0, bi_1, bi_z, bft, n10, n01, Nat.reduceEqDiff, Nat.reduceLT, Nat.reduceAdd, Nat.reduceMul, reduceCtorEq] at hq ho <;> simp (disch := omega) only [e_Cp_of, b_Cp_of_0 hg, b_Cp_of_8, b_Cp_of_11, b_Cp_of_15, b_Cp_of_18, b_Cp_of_20 hg, b_Cp_of_29, b_Cp_of_35, b_Cp_of_40, b_Cp_of_44, b_Cp_of_45, b_Cp_of_46, b_Cp_of_51, b_Cp_of_53, b_Cp_of_80 hg, b_Cp_of_95 hg, b_Cp_of_110 hg, b_Cp_of_119, b_Cp_of_120, c_has hg, hasS_I hS, hf, c_isBeat, hb, c_isOnN hg hS, ho, q0, exI, exJ, exV, eq_self, true_and, and_true, true_or, or_true, if_true, if_false, not_true, not_false_eq_true, false_and, and_false, decide_true, decide_false, bi_T, bi_F, bi_0, bi_1, bi_z, bft, n10, n01, Nat.reduceEqDiff, Nat.reduceLT, Nat.reduceAdd, Nat.reduceMul, reduceCtorEq] <;> exact hq
        · simp (disch := omega) only [e_Mo_of, b_Mo_of_0 hg, b_Mo_of_10, b_Mo_of_13, b_Mo_of_17, b_Mo_of_20, b_Mo_of_29, b_Mo_of_32, b_Mo_of_34, b_Mo_of_38 hg, b_Mo_of_45, b_Mo_of_46 hg, b_Mo_of_52, b_Mo_of_55, b_Mo_of_59, b_Mo_of_64 hg, b_Mo_of_70, b_Mo_of_73 hg, b_Mo_of_80, c_isFigure hg hB hM, hf, c_mIsBeat, hb, c_inI, q0, nlt, exI, exJ, exV, eq_self, true_and, and_true, true_or, or_true, if_true, if_false, not_true, not_false_eq_true, false_and, and_false, decide_true, decide_false, bi_T, bi_F, bi_0, bi_1, bi_z, bft, n10, n01, Nat.reduceEqDiff, Nat.reduceLT, Nat.reduceAdd, Nat.reduceMul, reduceCtorEq, Nat.not_lt_zero, c_placeOf hg, mp0 hM]; exact hq
      by_cases q : 0 < S 13 (j * 12 + k)
      rotate_left
      · have ho : sOn S j k = false := by rw [ho]; exact decide_eq_false q
        refine both_t h (-1) (fun Q hq => ?_) (fun Q hq => ?_)
        · simp (disch := omega) only [e_Cp_of, b_Cp_of_0 hg, b_Cp_of_8, b_Cp_of_11, b_Cp_of_15, b_Cp_of_18, b_Cp_of_20 hg, b_Cp_of_29, b_Cp_of_35, b_Cp_of_40, b_Cp_of_44, b_Cp_of_45, b_Cp_of_46, b_Cp_of_51, b_Cp_of_53, b_Cp_of_80 hg, b_Cp_of_95 hg, b_Cp_of_110 hg, b_Cp_of_119, b_Cp_of_120, c_has hg, hasS_I hS, hf, c_isBeat, hb, c_isOnN hg hS, ho, q0, exI, exJ, exV, eq_self, true_and, and_true, true_or, or_true, if_true, if_false, not_true, not_false_eq_true, false_and, and_false, decide_true, decide_false, bi_T, bi_F, bi_0, bi_1, bi_z, bft, n10, n01, Nat.reduceEqDiff, Nat.reduceLT, Nat.reduceAdd, Nat.reduceMul, reduceCtorEq]; exact hq
        · rw [e_Mo_of, b_Mo_of_0 hg]
          simp (disch := omega) only [b_Mo_of_10, b_Mo_of_13, b_Mo_of_17, b_Mo_of_20, c_isFigure hg hB hM, hf, c_mIsBeat, hb, c_inI, exI, exJ, exV, eq_self, true_and, and_true, true_or, or_true, if_true, if_false, not_true, not_false_eq_true, false_and, and_false, decide_true, decide_false, bi_T, bi_F, bi_0, bi_1, bi_z, bft, n10, n01, Nat.reduceEqDiff, Nat.reduceLT, Nat.reduceAdd, Nat.reduceMul, reduceCtorEq]
          generalize bi (decide (¬x < nI 0 ∧ ¬nI 3 < x)) = w
          rw [b_Mo_of_29]
          by_cases qw : w = nI 0
          · simp only [qw, b_Mo_of_32, exI, exJ, exV, eq_self, true_and, and_true, true_or, or_true, if_true, if_false, not_true, not_false_eq_true, false_and, and_false, decide_true, decide_false, bi_T, bi_F, bi_0, bi_1, bi_z, bft, n10, n01, Nat.reduceEqDiff, Nat.reduceLT, Nat.reduceAdd, Nat.reduceMul, reduceCtorEq]; exact hq
          · simp (disch := omega) only [qw, q0, b_Mo_of_34, b_Mo_of_46 hg, b_Mo_of_52, b_Mo_of_55, b_Mo_of_80, c_mIsOn hg hB hM, ho, exI, exJ, exV, eq_self, true_and, and_true, true_or, or_true, if_true, if_false, not_true, not_false_eq_true, false_and, and_false, decide_true, decide_false, bi_T, bi_F, bi_0, bi_1, bi_z, bft, n10, n01, Nat.reduceEqDiff, Nat.reduceLT, Nat.reduceAdd, Nat.reduceMul, reduceCtorEq]; exact hq
      have ho : sOn S j k = true := by rw [ho]; exact decide_eq_true q
      have hi1 : j * 12 + k < 72 := by omega
      have hm := sDp_on ho
      by_cases q1 : x = nI 1
      · have z : (nI 1 = nI 3) = False := eq_false (by decide)
        refine both_t h (nI (S 11 (j * 12 + k))) (fun Q hq => ?_) (fun Q hq => ?_)
        · simp (disch := omega) only [e_Cp_of, b_Cp_of_0 hg, b_Cp_of_8, b_Cp_of_11, b_Cp_of_15, b_Cp_of_18, b_Cp_of_20 hg, b_Cp_of_29, b_Cp_of_35, b_Cp_of_40, b_Cp_of_44, b_Cp_of_45, b_Cp_of_46, b_Cp_of_51, b_Cp_of_53, b_Cp_of_80 hg, b_Cp_of_95 hg, b_Cp_of_110 hg, b_Cp_of_119, b_Cp_of_120, c_has hg, hasS_I hS, hf, c_isBeat, hb, c_isOnN hg hS, ho, q1, ↓reduceIte, nadd, nmul, nsub, nlt, neq, ncl, nvi, ndiv, nrem, nand, nor, nxor, nshl, nshr, exI, exJ, exV, eq_self, true_and, and_true, true_or, or_true, if_true, if_false, not_true, not_false_eq_true, false_and, and_false, decide_true, decide_false, bi_T, bi_F, bi_0, bi_1, bi_z, bft, n10, n01, Nat.reduceEqDiff, Nat.reduceLT, Nat.reduceAdd, Nat.reduceMul, reduceCtorEq, cs11 hS]; exact hq
        · simp (disch := omega) only [e_Mo_of, b_Mo_of_0 hg, b_Mo_of_10, b_Mo_of_13, b_Mo_of_17, b_Mo_of_20, b_Mo_of_29, b_Mo_of_32, b_Mo_of_34, b_Mo_of_38 hg, b_Mo_of_45, b_Mo_of_46 hg, b_Mo_of_52, b_Mo_of_55, b_Mo_of_59, b_Mo_of_64 hg, b_Mo_of_70, b_Mo_of_73 hg, b_Mo_of_80, c_isFigure hg hB hM, hf, c_mIsBeat, hb, c_inI, q1, nlt, exI, exJ, exV, eq_self, true_and, and_true, true_or, or_true, if_true, if_false, not_true, not_false_eq_true, false_and, and_false, decide_true, decide_false, bi_T, bi_F, bi_0, bi_1, bi_z, bft, n10, n01, Nat.reduceEqDiff, Nat.reduceLT, Nat.reduceAdd, Nat.reduceMul, reduceCtorEq, Nat.not_lt_zero, c_placeOf hg, c_mIsOn hg hB hM, ho, z, mp1 hM]; exact hq
      by_cases q2 : x = nI 2
      · have z : (nI 2 = nI 3) = False := eq_false (by decide)
        have z0 : (nI 2 = nI 0) = False := eq_false (by decide)
        refine both_t h (nI (S 12 (j * 12 + k))) (fun Q hq => ?_) (fun Q hq => ?_)
        · simp (disch := omega) only [e_Cp_of, b_Cp_of_0 hg, b_Cp_of_8, b_Cp_of_11, b_Cp_of_15, b_Cp_of_18, b_Cp_of_20 hg, b_Cp_of_29, b_Cp_of_35, b_Cp_of_40, b_Cp_of_44, b_Cp_of_45, b_Cp_of_46, b_Cp_of_51, b_Cp_of_53, b_Cp_of_80 hg, b_Cp_of_95 hg, b_Cp_of_110 hg, b_Cp_of_119, b_Cp_of_120, c_has hg, hasS_I hS, hf, c_isBeat, hb, c_isOnN hg hS, ho, q2, ↓reduceIte, nadd, nmul, nsub, nlt, neq, ncl, nvi, ndiv, nrem, nand, nor, nxor, nshl, nshr, exI, exJ, exV, eq_self, true_and, and_true, true_or, or_true, if_true, if_false, not_true, not_false_eq_true, false_and, and_false, decide_true, decide_false, bi_T, bi_F, bi_0, bi_1, bi_z, bft, n10, n01, Nat.reduceEqDiff, Nat.reduceLT, Nat.reduceAdd, Nat.reduceMul, reduceCtorEq, cs12 hS]; exact hq
        · simp (disch := omega) only [e_Mo_of, b_Mo_of_0 hg, b_Mo_of_10, b_Mo_of_13, b_Mo_of_17, b_Mo_of_20, b_Mo_of_29, b_Mo_of_32, b_Mo_of_34, b_Mo_of_38 hg, b_Mo_of_45, b_Mo_of_46 hg, b_Mo_of_52, b_Mo_of_55, b_Mo_of_59, b_Mo_of_64 hg, b_Mo_of_70, b_Mo_of_73 hg, b_Mo_of_80, c_isFigure hg hB hM, hf, c_mIsBeat, hb, c_inI, q2, nlt, exI, exJ, exV, eq_self, true_and, and_true, true_or, or_true, if_true, if_false, not_true, not_false_eq_true, false_and, and_false, decide_true, decide_false, bi_T, bi_F, bi_0, bi_1, bi_z, bft, n10, n01, Nat.reduceEqDiff, Nat.reduceLT, Nat.reduceAdd, Nat.reduceMul, reduceCtorEq, Nat.not_lt_zero, c_placeOf hg, c_mIsOn hg hB hM, ho, z, z0, mp2 hM]; exact hq
      by_cases q3 : x = nI 3
      · have z0 : (nI 3 = nI 0) = False := eq_false (by decide)
        refine both_t h (nI (mDp S j k)) (fun Q hq => ?_) (fun Q hq => ?_)
        · simp (disch := omega) only [e_Cp_of, b_Cp_of_0 hg, b_Cp_of_8, b_Cp_of_11, b_Cp_of_15, b_Cp_of_18, b_Cp_of_20 hg, b_Cp_of_29, b_Cp_of_35, b_Cp_of_40, b_Cp_of_44, b_Cp_of_45, b_Cp_of_46, b_Cp_of_51, b_Cp_of_53, b_Cp_of_80 hg, b_Cp_of_95 hg, b_Cp_of_110 hg, b_Cp_of_119, b_Cp_of_120, c_has hg, hasS_I hS, hf, c_isBeat, hb, c_isOnN hg hS, ho, q3, ↓reduceIte, nadd, nmul, nsub, nlt, neq, ncl, nvi, ndiv, nrem, nand, nor, nxor, nshl, nshr, exI, exJ, exV, eq_self, true_and, and_true, true_or, or_true, if_true, if_false, not_true, not_false_eq_true, false_and, and_false, decide_true, decide_false, bi_T, bi_F, bi_0, bi_1, bi_z, bft, n10, n01, Nat.reduceEqDiff, Nat.reduceLT, Nat.reduceAdd, Nat.reduceMul, reduceCtorEq, c_depth hg hS, hm]; exact hq
        · simp (disch := omega) only [e_Mo_of, b_Mo_of_0 hg, b_Mo_of_10, b_Mo_of_13, b_Mo_of_17, b_Mo_of_20, b_Mo_of_29, b_Mo_of_32, b_Mo_of_34, b_Mo_of_38 hg, b_Mo_of_45, b_Mo_of_46 hg, b_Mo_of_52, b_Mo_of_55, b_Mo_of_59, b_Mo_of_64 hg, b_Mo_of_70, b_Mo_of_73 hg, b_Mo_of_80, c_isFigure hg hB hM, hf, c_mIsBeat, hb, c_inI, q3, nlt, exI, exJ, exV, eq_self, true_and, and_true, true_or, or_true, if_true, if_false, not_true, not_false_eq_true, false_and, and_false, decide_true, decide_false, bi_T, bi_F, bi_0, bi_1, bi_z, bft, n10, n01, Nat.reduceEqDiff, Nat.reduceLT, Nat.reduceAdd, Nat.reduceMul, reduceCtorEq, Nat.not_lt_zero, c_deepOf hg hB hM, c_mIsOn hg hB hM, ho, z0]; exact hq
      have hr : ¬ (¬ x < nI 0 ∧ ¬ nI 3 < x) := fun z => by
        obtain ⟨m, y1, y2, y3⟩ := irng (by decide) (by decide) z.1 z.2
        have : m = 0 ∨ m = 1 ∨ m = 2 ∨ m = 3 := by omega
        rcases this with rfl | rfl | rfl | rfl
        · exact q0 y1
        · exact q1 y1
        · exact q2 y1
        · exact q3 y1
      refine both_t h (-1) (fun Q hq => ?_) (fun Q hq => ?_)
      · simp (disch := omega) only [e_Cp_of, b_Cp_of_0 hg, b_Cp_of_8, b_Cp_of_11, b_Cp_of_15, b_Cp_of_18, b_Cp_of_20 hg, b_Cp_of_29, b_Cp_of_35, b_Cp_of_40, b_Cp_of_44, b_Cp_of_45, b_Cp_of_46, b_Cp_of_51, b_Cp_of_53, b_Cp_of_80 hg, b_Cp_of_95 hg, b_Cp_of_110 hg, b_Cp_of_119, b_Cp_of_120, c_has hg, hasS_I hS, hf, c_isBeat, hb, c_isOnN hg hS, ho, q0, q1, q2, q3, exI, exJ, exV, eq_self, true_and, and_true, true_or, or_true, if_true, if_false, not_true, not_false_eq_true, false_and, and_false, decide_true, decide_false, bi_T, bi_F, bi_0, bi_1, bi_z, bft, n10, n01, Nat.reduceEqDiff, Nat.reduceLT, Nat.reduceAdd, Nat.reduceMul, reduceCtorEq]; exact hq
      · simp (disch := omega) only [e_Mo_of, b_Mo_of_0 hg, b_Mo_of_10, b_Mo_of_13, b_Mo_of_17, b_Mo_of_20, b_Mo_of_29, b_Mo_of_32, b_Mo_of_34, b_Mo_of_38 hg, b_Mo_of_45, b_Mo_of_46 hg, b_Mo_of_52, b_Mo_of_55, b_Mo_of_59, b_Mo_of_64 hg, b_Mo_of_70, b_Mo_of_73 hg, b_Mo_of_80, c_isFigure hg hB hM, hf, c_mIsBeat, hb, c_inI, decide_eq_false hr, exI, exJ, exV, eq_self, true_and, and_true, true_or, or_true, if_true, if_false, not_true, not_false_eq_true, false_and, and_false, decide_true, decide_false, bi_T, bi_F, bi_0, bi_1, bi_z, bft, n10, n01, Nat.reduceEqDiff, Nat.reduceLT, Nat.reduceAdd, Nat.reduceMul, reduceCtorEq]; exact hq
end TEL
