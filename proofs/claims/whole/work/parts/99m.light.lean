/-! ===== shadow, seen, common ===== -/
section LGT
variable {N : Nat} {X : Nat → Int32} {ow : Nat → Nat} {S : Nat → Nat → Nat} {LF : aLF} {g : aG} {I : Nat → Nat → Int32} {J : Nat → Nat → Int64} {Q : aQ} {d : Nat}
theorem m_shadow {f b x : Int32} (h : INV N X ow S LF g I J) : BOTH N X (d + 5) m_Cp_shadow m_Mo_shadow [.int f, .int b, .int x] (g, I, J) := by
  have hg := h.1.1
  have hS := h.2.2.1.1
  have hM := hM0 h
  have hB := hS.2
  have h7 := sb7 hB 0
  cases hb : beI b with
  | false =>
    refine both_t h (nI 0) (fun Q hq => ?_) (fun Q hq => ?_)
    · by_cases q : f = -1
      · simp (disch := omega) only [e_Cp_shadow, b_Cp_shadow_0, b_Cp_shadow_5 hg, b_Cp_shadow_14, b_Cp_shadow_15 hg, b_Cp_shadow_25, q, c_rowOfAllX hg hS (Or.inl hb), exI, exJ, exV, eq_self, true_and, and_true, true_or, or_true, if_true, if_false, not_true, not_false_eq_true, false_and, and_false, decide_true, decide_false, bi_T, bi_F, bi_0, bi_1, bi_z, bft, n10, n01, Nat.reduceEqDiff, Nat.reduceLT, Nat.reduceAdd, Nat.reduceMul, reduceCtorEq]; exact hq
      · simp (disch := omega) only [e_Cp_shadow, b_Cp_shadow_0, b_Cp_shadow_5 hg, b_Cp_shadow_14, b_Cp_shadow_15 hg, b_Cp_shadow_25, q, c_rowOfX hg hS (Or.inl (onI_bad (Or.inl hb))), exI, exJ, exV, eq_self, true_and, and_true, true_or, or_true, if_true, if_false, not_true, not_false_eq_true, false_and, and_false, decide_true, decide_false, bi_T, bi_F, bi_0, bi_1, bi_z, bft, n10, n01, Nat.reduceEqDiff, Nat.reduceLT, Nat.reduceAdd, Nat.reduceMul, reduceCtorEq]; exact hq
    · simp (disch := omega) only [e_Mo_shadow, b_Mo_shadow_0 hg, b_Mo_shadow_9, b_Mo_shadow_12, b_Mo_shadow_21, b_Mo_shadow_24, b_Mo_shadow_26, b_Mo_shadow_31 hg, b_Mo_shadow_37, b_Mo_shadow_38 hg, b_Mo_shadow_44, b_Mo_shadow_47 hg, b_Mo_shadow_54, b_Mo_shadow_57, b_Mo_shadow_58, c_mIsBeat, hb, exI, exJ, exV, eq_self, true_and, and_true, true_or, or_true, if_true, if_false, not_true, not_false_eq_true, false_and, and_false, decide_true, decide_false, bi_T, bi_F, bi_0, bi_1, bi_z, bft, n10, n01, Nat.reduceEqDiff, Nat.reduceLT, Nat.reduceAdd, Nat.reduceMul, reduceCtorEq]; exact hq
  | true =>
  by_cases q : ¬ x < nI 0 ∧ ¬ nI 15 < x
  rotate_left
  · have q2 : x < nI 0 ∨ ¬ x < nI 16 := by
      rw [l16]
      by_cases z : x < nI 0
      · exact Or.inl z
      · exact Or.inr (fun y => q ⟨z, y⟩)
    refine both_t h (nI 0) (fun Q hq => ?_) (fun Q hq => ?_)
    · by_cases q : f = -1
      · simp (disch := omega) only [e_Cp_shadow, b_Cp_shadow_0, b_Cp_shadow_5 hg, b_Cp_shadow_14, b_Cp_shadow_15 hg, b_Cp_shadow_25, q, c_rowOfAllX hg hS (Or.inr q2), exI, exJ, exV, eq_self, true_and, and_true, true_or, or_true, if_true, if_false, not_true, not_false_eq_true, false_and, and_false, decide_true, decide_false, bi_T, bi_F, bi_0, bi_1, bi_z, bft, n10, n01, Nat.reduceEqDiff, Nat.reduceLT, Nat.reduceAdd, Nat.reduceMul, reduceCtorEq]; exact hq
      · simp (disch := omega) only [e_Cp_shadow, b_Cp_shadow_0, b_Cp_shadow_5 hg, b_Cp_shadow_14, b_Cp_shadow_15 hg, b_Cp_shadow_25, q, c_rowOfX hg hS (Or.inr q2), exI, exJ, exV, eq_self, true_and, and_true, true_or, or_true, if_true, if_false, not_true, not_false_eq_true, false_and, and_false, decide_true, decide_false, bi_T, bi_F, bi_0, bi_1, bi_z, bft, n10, n01, Nat.reduceEqDiff, Nat.reduceLT, Nat.reduceAdd, Nat.reduceMul, reduceCtorEq]; exact hq
    · simp (disch := omega) only [e_Mo_shadow, b_Mo_shadow_0 hg, b_Mo_shadow_9, b_Mo_shadow_12, b_Mo_shadow_21, b_Mo_shadow_24, b_Mo_shadow_26, b_Mo_shadow_31 hg, b_Mo_shadow_37, b_Mo_shadow_38 hg, b_Mo_shadow_44, b_Mo_shadow_47 hg, b_Mo_shadow_54, b_Mo_shadow_57, b_Mo_shadow_58, c_mIsBeat, hb, c_inI, decide_eq_false q, exI, exJ, exV, eq_self, true_and, and_true, true_or, or_true, if_true, if_false, not_true, not_false_eq_true, false_and, and_false, decide_true, decide_false, bi_T, bi_F, bi_0, bi_1, bi_z, bft, n10, n01, Nat.reduceEqDiff, Nat.reduceLT, Nat.reduceAdd, Nat.reduceMul, reduceCtorEq]; exact hq
  obtain ⟨m, rfl, -, hm⟩ := irng (by decide) (by decide) q.1 q.2
  obtain ⟨k, hk, rfl⟩ := beI_of hb
  by_cases qf : f = -1
  · refine both_t h (nI (allR S k m 6)) (fun Q hq => ?_) (fun Q hq => ?_)
    · simp (disch := omega) only [e_Cp_shadow, b_Cp_shadow_0, b_Cp_shadow_5 hg, b_Cp_shadow_14, b_Cp_shadow_15 hg, b_Cp_shadow_25, qf, c_rowOfAll hg hS, exI, exJ, exV, eq_self, true_and, and_true, true_or, or_true, if_true, if_false, not_true, not_false_eq_true, false_and, and_false, decide_true, decide_false, bi_T, bi_F, bi_0, bi_1, bi_z, bft, n10, n01, Nat.reduceEqDiff, Nat.reduceLT, Nat.reduceAdd, Nat.reduceMul, reduceCtorEq]; exact hq
    · simp (disch := omega) only [e_Mo_shadow, b_Mo_shadow_0 hg, b_Mo_shadow_9, b_Mo_shadow_12, b_Mo_shadow_21, b_Mo_shadow_24, b_Mo_shadow_26, b_Mo_shadow_31 hg, b_Mo_shadow_37, b_Mo_shadow_38 hg, b_Mo_shadow_44, b_Mo_shadow_47 hg, b_Mo_shadow_54, b_Mo_shadow_57, b_Mo_shadow_58, c_mIsBeat, hb, c_inI, decide_eq_true q, qf, c_allRow hg hB hM, exI, exJ, exV, eq_self, true_and, and_true, true_or, or_true, if_true, if_false, not_true, not_false_eq_true, false_and, and_false, decide_true, decide_false, bi_T, bi_F, bi_0, bi_1, bi_z, bft, n10, n01, Nat.reduceEqDiff, Nat.reduceLT, Nat.reduceAdd, Nat.reduceMul, reduceCtorEq]; exact hq
  cases hf : hasS S f with
  | false =>
    refine both_t h (nI 0) (fun Q hq => ?_) (fun Q hq => ?_)
    · simp (disch := omega) only [e_Cp_shadow, b_Cp_shadow_0, b_Cp_shadow_5 hg, b_Cp_shadow_14, b_Cp_shadow_15 hg, b_Cp_shadow_25, qf, c_rowOfX hg hS (Or.inl (onI_bad (Or.inr ((hasS_I hS f).trans hf)))), exI, exJ, exV, eq_self, true_and, and_true, true_or, or_true, if_true, if_false, not_true, not_false_eq_true, false_and, and_false, decide_true, decide_false, bi_T, bi_F, bi_0, bi_1, bi_z, bft, n10, n01, Nat.reduceEqDiff, Nat.reduceLT, Nat.reduceAdd, Nat.reduceMul, reduceCtorEq]; exact hq
    · simp (disch := omega) only [e_Mo_shadow, b_Mo_shadow_0 hg, b_Mo_shadow_9, b_Mo_shadow_12, b_Mo_shadow_21, b_Mo_shadow_24, b_Mo_shadow_26, b_Mo_shadow_31 hg, b_Mo_shadow_37, b_Mo_shadow_38 hg, b_Mo_shadow_44, b_Mo_shadow_47 hg, b_Mo_shadow_54, b_Mo_shadow_57, b_Mo_shadow_58, c_mIsBeat, hb, c_inI, decide_eq_true q, qf, c_mIsOnX hg hB hM hf, exI, exJ, exV, eq_self, true_and, and_true, true_or, or_true, if_true, if_false, not_true, not_false_eq_true, false_and, and_false, decide_true, decide_false, bi_T, bi_F, bi_0, bi_1, bi_z, bft, n10, n01, Nat.reduceEqDiff, Nat.reduceLT, Nat.reduceAdd, Nat.reduceMul, reduceCtorEq]; exact hq
  | true =>
  obtain ⟨n, hn, rfl⟩ := hasS_of hB hf
  refine both_t h (nI (shR S n k m)) (fun Q hq => ?_) (fun Q hq => ?_)
  · simp (disch := omega) only [e_Cp_shadow, b_Cp_shadow_0, b_Cp_shadow_5 hg, b_Cp_shadow_14, b_Cp_shadow_15 hg, b_Cp_shadow_25, qf, c_rowOf hg hS, exI, exJ, exV, eq_self, true_and, and_true, true_or, or_true, if_true, if_false, not_true, not_false_eq_true, false_and, and_false, decide_true, decide_false, bi_T, bi_F, bi_0, bi_1, bi_z, bft, n10, n01, Nat.reduceEqDiff, Nat.reduceLT, Nat.reduceAdd, Nat.reduceMul, reduceCtorEq]; exact hq
  · cases ho : sOn S n k with
    | false =>
      rw [shR_off (by rw [ho]; decide)] at hq
      simp (disch := omega) only [e_Mo_shadow, b_Mo_shadow_0 hg, b_Mo_shadow_9, b_Mo_shadow_12, b_Mo_shadow_21, b_Mo_shadow_24, b_Mo_shadow_26, b_Mo_shadow_31 hg, b_Mo_shadow_37, b_Mo_shadow_38 hg, b_Mo_shadow_44, b_Mo_shadow_47 hg, b_Mo_shadow_54, b_Mo_shadow_57, b_Mo_shadow_58, c_mIsBeat, hb, c_inI, decide_eq_true q, qf, c_mIsOn hg hB hM, ho, exI, exJ, exV, eq_self, true_and, and_true, true_or, or_true, if_true, if_false, not_true, not_false_eq_true, false_and, and_false, decide_true, decide_false, bi_T, bi_F, bi_0, bi_1, bi_z, bft, n10, n01, Nat.reduceEqDiff, Nat.reduceLT, Nat.reduceAdd, Nat.reduceMul, reduceCtorEq]; exact hq
    | true =>
      simp (disch := omega) only [e_Mo_shadow, b_Mo_shadow_0 hg, b_Mo_shadow_9, b_Mo_shadow_12, b_Mo_shadow_21, b_Mo_shadow_24, b_Mo_shadow_26, b_Mo_shadow_31 hg, b_Mo_shadow_37, b_Mo_shadow_38 hg, b_Mo_shadow_44, b_Mo_shadow_47 hg, b_Mo_shadow_54, b_Mo_shadow_57, b_Mo_shadow_58, c_mIsBeat, hb, c_inI, decide_eq_true q, qf, c_mIsOn hg hB hM, ho, c_shadowRow hg hB hM ho, exI, exJ, exV, eq_self, true_and, and_true, true_or, or_true, if_true, if_false, not_true, not_false_eq_true, false_and, and_false, decide_true, decide_false, bi_T, bi_F, bi_0, bi_1, bi_z, bft, n10, n01, Nat.reduceEqDiff, Nat.reduceLT, Nat.reduceAdd, Nat.reduceMul, reduceCtorEq]; exact hq
theorem onI_f (hS : CS S I) {f b : Int32} (h : ¬ ∃ n k, n < S 7 0 ∧ k < 12 ∧ f = nI n ∧ b = nI k ∧ sOn S n k = true) : onI I f b = false := by
  cases hb : beI b with
  | false => exact onI_bad (Or.inl hb)
  | true =>
    cases hf : hasS S f with
    | false => exact onI_bad (Or.inr ((hasS_I hS f).trans hf))
    | true =>
      obtain ⟨n, hn, rfl⟩ := hasS_of hS.2 hf
      obtain ⟨k, hk, rfl⟩ := beI_of hb
      have := sb7 hS.2 0
      rw [onI_n hS (by omega) hk]
      cases ho : sOn S n k with
      | false => rfl
      | true => exact absurd ⟨n, k, hn, hk, rfl, rfl, ho⟩ h
theorem mOn_f (hg : Geo g) (hB : SB S) {T : Nat → Int32} (hM : MS S T (I 91)) {f : Int32} {k : Nat} (hk : k < 12) (h : ¬ ∃ n, n < S 7 0 ∧ f = nI n ∧ sOn S n k = true) : a_call aTab aMX (d + 3) m_Mo_isOn [.ref 89, .int f, .int (nI k)] (g, I, J) Q = Q (some (.int (nI 0))) (g, I, J) := by
  cases hf : hasS S f with
  | false => exact c_mIsOnX hg hB hM hf
  | true =>
    obtain ⟨n, hn, rfl⟩ := hasS_of hB hf
    have := sb7 hB 0
    cases ho : sOn S n k with
    | false => rw [c_mIsOn hg hB hM (by omega) hk, ho, bi_F]
    | true => exact absurd ⟨n, hn, rfl, ho⟩ h
theorem m_common {f o b : Int32} (h : INV N X ow S LF g I J) : BOTH N X (d + 5) m_Cp_common m_Mo_common [.int f, .int o, .int b] (g, I, J) := by
  have hg := h.1.1
  have hS := h.2.2.1.1
  have hM := hM0 h
  have hB := hS.2
  have h7 := sb7 hB 0
  cases hb : beI b with
  | false =>
    refine both_t h (-1) (fun Q hq => ?_) (fun Q hq => ?_)
    · simp (disch := omega) only [e_Cp_common, b_Cp_common_0 hg, b_Cp_common_9, b_Cp_common_12 hg, b_Cp_common_21, b_Cp_common_24, b_Cp_common_26 hg, b_Cp_common_36, c_isOn hg hS, onI_bad (f := f) (Or.inl hb), exI, exJ, exV, eq_self, true_and, and_true, true_or, or_true, if_true, if_false, not_true, not_false_eq_true, false_and, and_false, decide_true, decide_false, bi_T, bi_F, bi_0, bi_1, bi_z, bft, n10, n01, Nat.reduceEqDiff, Nat.reduceLT, Nat.reduceAdd, Nat.reduceMul, reduceCtorEq]; exact hq
    · simp (disch := omega) only [e_Mo_common, b_Mo_common_0 hg, b_Mo_common_9, b_Mo_common_12, b_Mo_common_18, b_Mo_common_21, b_Mo_common_25, b_Mo_common_26 hg, b_Mo_common_29, b_Mo_common_32, b_Mo_common_38, b_Mo_common_41, b_Mo_common_45, b_Mo_common_46 hg, b_Mo_common_49, b_Mo_common_52, b_Mo_common_54, b_Mo_common_60, b_Mo_common_67 hg, b_Mo_common_77 hg, b_Mo_common_85, b_Mo_common_89, b_Mo_common_98, c_mIsBeat, hb, exI, exJ, exV, eq_self, true_and, and_true, true_or, or_true, if_true, if_false, not_true, not_false_eq_true, false_and, and_false, decide_true, decide_false, bi_T, bi_F, bi_0, bi_1, bi_z, bft, n10, n01, Nat.reduceEqDiff, Nat.reduceLT, Nat.reduceAdd, Nat.reduceMul, reduceCtorEq]; exact hq
  | true =>
  obtain ⟨k, hk, rfl⟩ := beI_of hb
  by_cases q1 : ∃ n, n < S 7 0 ∧ f = nI n ∧ sOn S n k = true
  rotate_left
  · refine both_t h (-1) (fun Q hq => ?_) (fun Q hq => ?_)
    · have z : onI I f (nI k) = false := onI_f hS (fun ⟨n, k2, y1, y2, y3, y4, y5⟩ => q1 ⟨n, y1, y3, by rw [neq (by omega) (by omega)] at y4; rw [y4]; exact y5⟩)
      simp (disch := omega) only [e_Cp_common, b_Cp_common_0 hg, b_Cp_common_9, b_Cp_common_12 hg, b_Cp_common_21, b_Cp_common_24, b_Cp_common_26 hg, b_Cp_common_36, c_isOn hg hS, z, exI, exJ, exV, eq_self, true_and, and_true, true_or, or_true, if_true, if_false, not_true, not_false_eq_true, false_and, and_false, decide_true, decide_false, bi_T, bi_F, bi_0, bi_1, bi_z, bft, n10, n01, Nat.reduceEqDiff, Nat.reduceLT, Nat.reduceAdd, Nat.reduceMul, reduceCtorEq]; exact hq
    · simp (disch := omega) only [e_Mo_common, b_Mo_common_0 hg, b_Mo_common_9, b_Mo_common_12, b_Mo_common_18, b_Mo_common_21, b_Mo_common_25, b_Mo_common_26 hg, b_Mo_common_29, b_Mo_common_32, b_Mo_common_38, b_Mo_common_41, b_Mo_common_45, b_Mo_common_46 hg, b_Mo_common_49, b_Mo_common_52, b_Mo_common_54, b_Mo_common_60, b_Mo_common_67 hg, b_Mo_common_77 hg, b_Mo_common_85, b_Mo_common_89, b_Mo_common_98, c_mIsBeat, hb, mOn_f hg hB hM hk q1, exI, exJ, exV, eq_self, true_and, and_true, true_or, or_true, if_true, if_false, not_true, not_false_eq_true, false_and, and_false, decide_true, decide_false, bi_T, bi_F, bi_0, bi_1, bi_z, bft, n10, n01, Nat.reduceEqDiff, Nat.reduceLT, Nat.reduceAdd, Nat.reduceMul, reduceCtorEq]; exact hq
  obtain ⟨n, hn, rfl, ho⟩ := q1
  have z1 : onI I (nI n) (nI k) = true := by rw [onI_n hS (by omega) hk]; exact ho
  by_cases q2 : ∃ n, n < S 7 0 ∧ o = nI n ∧ sOn S n k = true
  rotate_left
  · refine both_t h (-1) (fun Q hq => ?_) (fun Q hq => ?_)
    · have z : onI I o (nI k) = false := onI_f hS (fun ⟨n, k2, y1, y2, y3, y4, y5⟩ => q2 ⟨n, y1, y3, by rw [neq (by omega) (by omega)] at y4; rw [y4]; exact y5⟩)
      simp (disch := omega) only [e_Cp_common, b_Cp_common_0 hg, b_Cp_common_9, b_Cp_common_12 hg, b_Cp_common_21, b_Cp_common_24, b_Cp_common_26 hg, b_Cp_common_36, c_isOn hg hS, z1, z, exI, exJ, exV, eq_self, true_and, and_true, true_or, or_true, if_true, if_false, not_true, not_false_eq_true, false_and, and_false, decide_true, decide_false, bi_T, bi_F, bi_0, bi_1, bi_z, bft, n10, n01, Nat.reduceEqDiff, Nat.reduceLT, Nat.reduceAdd, Nat.reduceMul, reduceCtorEq]; exact hq
    · simp (disch := omega) only [e_Mo_common, b_Mo_common_0 hg, b_Mo_common_9, b_Mo_common_12, b_Mo_common_18, b_Mo_common_21, b_Mo_common_25, b_Mo_common_26 hg, b_Mo_common_29, b_Mo_common_32, b_Mo_common_38, b_Mo_common_41, b_Mo_common_45, b_Mo_common_46 hg, b_Mo_common_49, b_Mo_common_52, b_Mo_common_54, b_Mo_common_60, b_Mo_common_67 hg, b_Mo_common_77 hg, b_Mo_common_85, b_Mo_common_89, b_Mo_common_98, c_mIsBeat, hb, c_mIsOn hg hB hM, ho, mOn_f hg hB hM hk q2, exI, exJ, exV, eq_self, true_and, and_true, true_or, or_true, if_true, if_false, not_true, not_false_eq_true, false_and, and_false, decide_true, decide_false, bi_T, bi_F, bi_0, bi_1, bi_z, bft, n10, n01, Nat.reduceEqDiff, Nat.reduceLT, Nat.reduceAdd, Nat.reduceMul, reduceCtorEq]; exact hq
  obtain ⟨n2, hn2, rfl, ho2⟩ := q2
  have z2 : onI I (nI n2) (nI k) = true := by rw [onI_n hS (by omega) hk]; exact ho2
  refine both_t h (nI (cB S n n2 k)) (fun Q hq => ?_) (fun Q hq => ?_)
  · simp (disch := omega) only [e_Cp_common, b_Cp_common_0 hg, b_Cp_common_9, b_Cp_common_12 hg, b_Cp_common_21, b_Cp_common_24, b_Cp_common_26 hg, b_Cp_common_36, c_isOn hg hS, z1, z2, c_cellsInBoth hg hS, exI, exJ, exV, eq_self, true_and, and_true, true_or, or_true, if_true, if_false, not_true, not_false_eq_true, false_and, and_false, decide_true, decide_false, bi_T, bi_F, bi_0, bi_1, bi_z, bft, n10, n01, Nat.reduceEqDiff, Nat.reduceLT, Nat.reduceAdd, Nat.reduceMul, reduceCtorEq]; exact hq
  · rw [e_Mo_common, b_Mo_common_0 hg]
    generalize u2 I 89 0 (nI 0) = I0 at hM hq ⊢
    simp (disch := omega) only [b_Mo_common_9, b_Mo_common_12, b_Mo_common_18, b_Mo_common_21, b_Mo_common_25, b_Mo_common_26 hg, b_Mo_common_29, b_Mo_common_32, b_Mo_common_38, b_Mo_common_41, b_Mo_common_45, b_Mo_common_46 hg, b_Mo_common_49, b_Mo_common_54, c_mIsBeat, hb, c_mIsOn hg hB hM, ho, ho2, exI, exJ, exV, eq_self, true_and, and_true, true_or, or_true, if_true, if_false, not_true, not_false_eq_true, false_and, and_false, decide_true, decide_false, bi_T, bi_F, bi_0, bi_1, bi_z, bft, n10, n01, Nat.reduceEqDiff, Nat.reduceLT, Nat.reduceAdd, Nat.reduceMul, reduceCtorEq]
    refine dn (P := fun r => a_wp aTab aMX (d + 4) m_Mo_common 60 [.ref 89, .int (nI n), .int (nI n2), .int (nI k), .int (nI (fb_sm (fun r => pcI (nI (shR S n k r &&& shR S n2 k r))) r)), .int (nI r)] [] (g, I0, J) Q) (n := 16) ?_ ?_ 0 (by omega)
    · rw [b_Mo_common_60]
      simp (disch := omega) only [b_Mo_common_98, ↓reduceIte, nadd, nmul, nsub, nlt, neq, ncl, nvi, ndiv, nrem, nand, nor, nxor, nshl, nshr, exI, exJ, exV, eq_self, true_and, and_true, true_or, or_true, if_true, if_false, not_true, not_false_eq_true, false_and, and_false, decide_true, decide_false, bi_T, bi_F, bi_0, bi_1, bi_z, bft, n10, n01, Nat.reduceEqDiff, Nat.reduceLT, Nat.reduceAdd, Nat.reduceMul, reduceCtorEq, Nat.lt_irrefl]; exact hq
    · intro r hr ih
      rw [b_Mo_common_60]
      simp (disch := omega) only [b_Mo_common_67 hg, b_Mo_common_77 hg, b_Mo_common_85, b_Mo_common_89, ↓reduceIte, nadd, nmul, nsub, nlt, neq, ncl, nvi, ndiv, nrem, nand, nor, nxor, nshl, nshr, exI, exJ, exV, eq_self, true_and, and_true, true_or, or_true, if_true, if_false, not_true, not_false_eq_true, false_and, and_false, decide_true, decide_false, bi_T, bi_F, bi_0, bi_1, bi_z, bft, n10, n01, Nat.reduceEqDiff, Nat.reduceLT, Nat.reduceAdd, Nat.reduceMul, reduceCtorEq, hr, c_shadowRow hg hB hM ho, c_shadowRow hg hB hM ho2, c_bits]
      exact ih
theorem m_seen {f b x : Int32} (h : INV N X ow S LF g I J) : BOTH N X (d + 5) m_Cp_seen m_Mo_seen [.int f, .int b, .int x] (g, I, J) := by
  have hg := h.1.1
  have hS := h.2.2.1.1
  have hM := hM0 h
  have hB := hS.2
  have h7 := sb7 hB 0
  cases hb : beI b with
  | false =>
    refine both_t h (-1) (fun Q hq => ?_) (fun Q hq => ?_)
    · simp (disch := omega) only [e_Cp_seen, b_Cp_seen_0 hg, b_Cp_seen_9, b_Cp_seen_12, b_Cp_seen_14, b_Cp_seen_40 hg, b_Cp_seen_50, b_Cp_seen_51 hg, b_Cp_seen_60, b_Cp_seen_61 hg, b_Cp_seen_70, b_Cp_seen_71, c_isOn hg hS, onI_bad (f := f) (Or.inl hb), exI, exJ, exV, eq_self, true_and, and_true, true_or, or_true, if_true, if_false, not_true, not_false_eq_true, false_and, and_false, decide_true, decide_false, bi_T, bi_F, bi_0, bi_1, bi_z, bft, n10, n01, Nat.reduceEqDiff, Nat.reduceLT, Nat.reduceAdd, Nat.reduceMul, reduceCtorEq]; exact hq
    · simp (disch := omega) only [e_Mo_seen, b_Mo_seen_0 hg, b_Mo_seen_9, b_Mo_seen_44, c_mIsBeat, hb, exI, exJ, exV, eq_self, true_and, and_true, true_or, or_true, if_true, if_false, not_true, not_false_eq_true, false_and, and_false, decide_true, decide_false, bi_T, bi_F, bi_0, bi_1, bi_z, bft, n10, n01, Nat.reduceEqDiff, Nat.reduceLT, Nat.reduceAdd, Nat.reduceMul, reduceCtorEq]; exact hq
  | true =>
  obtain ⟨k, hk, rfl⟩ := beI_of hb
  by_cases q1 : ∃ n, n < S 7 0 ∧ f = nI n ∧ sOn S n k = true
  rotate_left
  · refine both_t h (-1) (fun Q hq => ?_) (fun Q hq => ?_)
    · have z : onI I f (nI k) = false := onI_f hS (fun ⟨n, k2, y1, y2, y3, y4, y5⟩ => q1 ⟨n, y1, y3, by rw [neq (by omega) (by omega)] at y4; rw [y4]; exact y5⟩)
      simp (disch := omega) only [e_Cp_seen, b_Cp_seen_0 hg, b_Cp_seen_9, b_Cp_seen_12, b_Cp_seen_14, b_Cp_seen_40 hg, b_Cp_seen_50, b_Cp_seen_51 hg, b_Cp_seen_60, b_Cp_seen_61 hg, b_Cp_seen_70, b_Cp_seen_71, c_isOn hg hS, z, exI, exJ, exV, eq_self, true_and, and_true, true_or, or_true, if_true, if_false, not_true, not_false_eq_true, false_and, and_false, decide_true, decide_false, bi_T, bi_F, bi_0, bi_1, bi_z, bft, n10, n01, Nat.reduceEqDiff, Nat.reduceLT, Nat.reduceAdd, Nat.reduceMul, reduceCtorEq]; exact hq
    · by_cases qw : ¬ x < nI 0 ∧ ¬ nI 2 < x
      · simp (disch := omega) only [e_Mo_seen, b_Mo_seen_0 hg, b_Mo_seen_9, b_Mo_seen_12, b_Mo_seen_21, b_Mo_seen_24, b_Mo_seen_30, b_Mo_seen_33, b_Mo_seen_37, b_Mo_seen_38 hg, b_Mo_seen_41, b_Mo_seen_44, c_mIsBeat, hb, c_inI, decide_eq_true qw, mOn_f hg hB hM hk q1, exI, exJ, exV, eq_self, true_and, and_true, true_or, or_true, if_true, if_false, not_true, not_false_eq_true, false_and, and_false, decide_true, decide_false, bi_T, bi_F, bi_0, bi_1, bi_z, bft, n10, n01, Nat.reduceEqDiff, Nat.reduceLT, Nat.reduceAdd, Nat.reduceMul, reduceCtorEq]; exact hq
      · simp (disch := omega) only [e_Mo_seen, b_Mo_seen_0 hg, b_Mo_seen_9, b_Mo_seen_12, b_Mo_seen_21, b_Mo_seen_24, b_Mo_seen_30, b_Mo_seen_33, b_Mo_seen_37, b_Mo_seen_38 hg, b_Mo_seen_41, b_Mo_seen_44, c_mIsBeat, hb, c_inI, decide_eq_false qw, exI, exJ, exV, eq_self, true_and, and_true, true_or, or_true, if_true, if_false, not_true, not_false_eq_true, false_and, and_false, decide_true, decide_false, bi_T, bi_F, bi_0, bi_1, bi_z, bft, n10, n01, Nat.reduceEqDiff, Nat.reduceLT, Nat.reduceAdd, Nat.reduceMul, reduceCtorEq]; exact hq
  obtain ⟨n, hn, rfl, ho⟩ := q1
  have z1 : onI I (nI n) (nI k) = true := by rw [onI_n hS (by omega) hk]; exact ho
  by_cases qw : ¬ x < nI 0 ∧ ¬ nI 2 < x
  rotate_left
  · have q0 : x ≠ nI 0 := fun z => qw (by rw [z]; decide)
    have q1 : x ≠ nI 1 := fun z => qw (by rw [z]; decide)
    have q2 : x ≠ nI 2 := fun z => qw (by rw [z]; decide)
    refine both_t h (-1) (fun Q hq => ?_) (fun Q hq => ?_)
    · simp (disch := omega) only [e_Cp_seen, b_Cp_seen_0 hg, b_Cp_seen_9, b_Cp_seen_12, b_Cp_seen_14, b_Cp_seen_40 hg, b_Cp_seen_50, b_Cp_seen_51 hg, b_Cp_seen_60, b_Cp_seen_61 hg, b_Cp_seen_70, b_Cp_seen_71, c_isOn hg hS, z1, q0, q1, q2, exI, exJ, exV, eq_self, true_and, and_true, true_or, or_true, if_true, if_false, not_true, not_false_eq_true, false_and, and_false, decide_true, decide_false, bi_T, bi_F, bi_0, bi_1, bi_z, bft, n10, n01, Nat.reduceEqDiff, Nat.reduceLT, Nat.reduceAdd, Nat.reduceMul, reduceCtorEq]; exact hq
    · simp (disch := omega) only [e_Mo_seen, b_Mo_seen_0 hg, b_Mo_seen_9, b_Mo_seen_12, b_Mo_seen_21, b_Mo_seen_44, c_mIsBeat, hb, c_inI, decide_eq_false qw, exI, exJ, exV, eq_self, true_and, and_true, true_or, or_true, if_true, if_false, not_true, not_false_eq_true, false_and, and_false, decide_true, decide_false, bi_T, bi_F, bi_0, bi_1, bi_z, bft, n10, n01, Nat.reduceEqDiff, Nat.reduceLT, Nat.reduceAdd, Nat.reduceMul, reduceCtorEq]; exact hq
  have hmp := mDp_pos hB ho
  have hml := mDp_lamp (S := S) n k
  have ht := sb10 hB
  have hm32 := mDp_le hB n k
  -- the loop of the reference
  have lp : ∀ (w : Nat) (I0 : Nat → Nat → Int32) (Q : aQ), w ≤ 1 → MS S (I 14) (I0 91) → Q (some (.int (nI (fb_sm (fun r => pcI (nI (if w = 0 then shR S n k r else hidR S n k r 6 &&& shR S n k r))) 16)))) (g, I0, J) → a_wp aTab aMX (d + 4) m_Mo_seen 80 [.ref 89, .int (nI n), .int (nI k), .int (nI w), .int (nI (mDp S n k)), aU, aU, aU, aU, aU] [] (g, I0, J) Q := by
    intro w I0 Q hw hM hq
    obtain ⟨F, eF⟩ : ∃ F : Nat → Nat, F = fun r => pcI (nI (if w = 0 then shR S n k r else hidR S n k r 6 &&& shR S n k r)) := ⟨_, rfl⟩
    rw [← eF] at hq
    rw [b_Mo_seen_80]
    refine dn (P := fun r => ∀ v7 v8 v9, a_wp aTab aMX (d + 4) m_Mo_seen 86 [.ref 89, .int (nI n), .int (nI k), .int (nI w), .int (nI (mDp S n k)), .int (nI (fb_sm F r)), .int (nI r), v7, v8, v9] [] (g, I0, J) Q) (n := 16) ?_ ?_ 0 (by omega) _ _ _
    · intro v7 v8 v9
      rw [b_Mo_seen_86]
      simp (disch := omega) only [b_Mo_seen_230, ↓reduceIte, nadd, nmul, nsub, nlt, neq, ncl, nvi, ndiv, nrem, nand, nor, nxor, nshl, nshr, exI, exJ, exV, eq_self, true_and, and_true, true_or, or_true, if_true, if_false, not_true, not_false_eq_true, false_and, and_false, decide_true, decide_false, bi_T, bi_F, bi_0, bi_1, bi_z, bft, n10, n01, Nat.reduceEqDiff, Nat.reduceLT, Nat.reduceAdd, Nat.reduceMul, reduceCtorEq, Nat.lt_irrefl]; exact hq
    · intro r hr ih v7 v8 v9
      have eFr : F r = pcI (nI (if w = 0 then shR S n k r else hidR S n k r 6 &&& shR S n k r)) := by rw [eF]
      rw [fb_sm_succ, eFr, hidR_6 hB] at ih
      rw [b_Mo_seen_86]
      simp (disch := omega) only [b_Mo_seen_93, ↓reduceIte, nadd, nmul, nsub, nlt, neq, ncl, nvi, ndiv, nrem, nand, nor, nxor, nshl, nshr, exI, exJ, exV, eq_self, true_and, and_true, true_or, or_true, if_true, if_false, not_true, not_false_eq_true, false_and, and_false, decide_true, decide_false, bi_T, bi_F, bi_0, bi_1, bi_z, bft, n10, n01, Nat.reduceEqDiff, Nat.reduceLT, Nat.reduceAdd, Nat.reduceMul, reduceCtorEq, hr]
      refine dn (P := fun j => ∀ v9, a_wp aTab aMX (d + 4) m_Mo_seen 99 [.ref 89, .int (nI n), .int (nI k), .int (nI w), .int (nI (mDp S n k)), .int (nI (fb_sm F r)), .int (nI r), .int (nI (hidR S n k r j)), .int (nI j), v9] [] (g, I0, J) Q) (n := S 7 0) ?_ ?_ 0 (by omega) _
      · intro v9
        rw [b_Mo_seen_99 hg]
        simp (disch := omega) only [ncl, ms0 hM, ↓reduceIte, nadd, nmul, nsub, nlt, neq, ncl, nvi, ndiv, nrem, nand, nor, nxor, nshl, nshr, exI, exJ, exV, eq_self, true_and, and_true, true_or, or_true, if_true, if_false, not_true, not_false_eq_true, false_and, and_false, decide_true, decide_false, bi_T, bi_F, bi_0, bi_1, bi_z, bft, n10, n01, Nat.reduceEqDiff, Nat.reduceLT, Nat.reduceAdd, Nat.reduceMul, reduceCtorEq, Nat.lt_irrefl, b_Mo_seen_192 hg, b_Mo_seen_200, c_shadowRow hg hB hM ho]
        have hw : w = 0 ∨ w = 1 := by omega
        rcases hw with rfl | rfl
        · simp only [exI, exJ, exV, eq_self, true_and, and_true, true_or, or_true, if_true, if_false, not_true, not_false_eq_true, false_and, and_false, decide_true, decide_false, bi_T, bi_F, bi_0, bi_1, bi_z, bft, n10, n01, Nat.reduceEqDiff, Nat.reduceLT, Nat.reduceAdd, Nat.reduceMul, reduceCtorEq] at ih
          simp (disch := omega) only [b_Mo_seen_208, b_Mo_seen_218, b_Mo_seen_221, c_bits, ↓reduceIte, nadd, nmul, nsub, nlt, neq, ncl, nvi, ndiv, nrem, nand, nor, nxor, nshl, nshr, exI, exJ, exV, eq_self, true_and, and_true, true_or, or_true, if_true, if_false, not_true, not_false_eq_true, false_and, and_false, decide_true, decide_false, bi_T, bi_F, bi_0, bi_1, bi_z, bft, n10, n01, Nat.reduceEqDiff, Nat.reduceLT, Nat.reduceAdd, Nat.reduceMul, reduceCtorEq]
          exact ih _ _ _
        · have n1 : (1 = 0) = False := by simp
          simp only [exI, exJ, exV, eq_self, true_and, and_true, true_or, or_true, if_true, if_false, not_true, not_false_eq_true, false_and, and_false, decide_true, decide_false, bi_T, bi_F, bi_0, bi_1, bi_z, bft, n10, n01, Nat.reduceEqDiff, Nat.reduceLT, Nat.reduceAdd, Nat.reduceMul, reduceCtorEq, n1] at ih
          rw [Nat.and_comm] at ih
          simp (disch := omega) only [n1, b_Mo_seen_213, b_Mo_seen_218, b_Mo_seen_221, c_bits, ↓reduceIte, nadd, nmul, nsub, nlt, neq, ncl, nvi, ndiv, nrem, nand, nor, nxor, nshl, nshr, exI, exJ, exV, eq_self, true_and, and_true, true_or, or_true, if_true, if_false, not_true, not_false_eq_true, false_and, and_false, decide_true, decide_false, bi_T, bi_F, bi_0, bi_1, bi_z, bft, n10, n01, Nat.reduceEqDiff, Nat.reduceLT, Nat.reduceAdd, Nat.reduceMul, reduceCtorEq]
          exact ih _ _ _
      · intro j hj ih2 v9
        rw [b_Mo_seen_99 hg]
        have hj6 : j < 6 := by omega
        have mj := mDp_le hB j k
        rw [show hidR S n k r (j + 1) = if ahd S n j k then hidR S n k r j ||| shR S j k r else hidR S n k r j from rfl] at ih2
        have yes : ahd S n j k = true → sOn S j k = true → ∀ v9, a_wp aTab aMX (d + 4) m_Mo_seen 161 [.ref 89, .int (nI n), .int (nI k), .int (nI w), .int (nI (mDp S n k)), .int (nI (fb_sm F r)), .int (nI r), .int (nI (hidR S n k r j)), .int (nI j), v9] [.int (nI 1)] (g, I0, J) Q := fun z oj v9 => by
          simp only [z, exI, exJ, exV, eq_self, true_and, and_true, true_or, or_true, if_true, if_false, not_true, not_false_eq_true, false_and, and_false, decide_true, decide_false, bi_T, bi_F, bi_0, bi_1, bi_z, bft, n10, n01, Nat.reduceEqDiff, Nat.reduceLT, Nat.reduceAdd, Nat.reduceMul, reduceCtorEq] at ih2
          simp (disch := omega) only [b_Mo_seen_161, b_Mo_seen_170 hg, b_Mo_seen_179, b_Mo_seen_183, c_shadowRow hg hB hM oj, ↓reduceIte, nadd, nmul, nsub, nlt, neq, ncl, nvi, ndiv, nrem, nand, nor, nxor, nshl, nshr, exI, exJ, exV, eq_self, true_and, and_true, true_or, or_true, if_true, if_false, not_true, not_false_eq_true, false_and, and_false, decide_true, decide_false, bi_T, bi_F, bi_0, bi_1, bi_z, bft, n10, n01, Nat.reduceEqDiff, Nat.reduceLT, Nat.reduceAdd, Nat.reduceMul, reduceCtorEq]
          exact ih2 _
        have no : ahd S n j k = false → ∀ v9, a_wp aTab aMX (d + 4) m_Mo_seen 161 [.ref 89, .int (nI n), .int (nI k), .int (nI w), .int (nI (mDp S n k)), .int (nI (fb_sm F r)), .int (nI r), .int (nI (hidR S n k r j)), .int (nI j), v9] [.int (nI 0)] (g, I0, J) Q := fun z v9 => by
          simp only [z, exI, exJ, exV, eq_self, true_and, and_true, true_or, or_true, if_true, if_false, not_true, not_false_eq_true, false_and, and_false, decide_true, decide_false, bi_T, bi_F, bi_0, bi_1, bi_z, bft, n10, n01, Nat.reduceEqDiff, Nat.reduceLT, Nat.reduceAdd, Nat.reduceMul, reduceCtorEq] at ih2
          simp (disch := omega) only [b_Mo_seen_161, b_Mo_seen_182, b_Mo_seen_183, ↓reduceIte, nadd, nmul, nsub, nlt, neq, ncl, nvi, ndiv, nrem, nand, nor, nxor, nshl, nshr, exI, exJ, exV, eq_self, true_and, and_true, true_or, or_true, if_true, if_false, not_true, not_false_eq_true, false_and, and_false, decide_true, decide_false, bi_T, bi_F, bi_0, bi_1, bi_z, bft, n10, n01, Nat.reduceEqDiff, Nat.reduceLT, Nat.reduceAdd, Nat.reduceMul, reduceCtorEq, Nat.or_zero]
          exact ih2 _
        have dA : ∀ {p : Prop} [Decidable p], p → decide p = true := fun z => decide_eq_true z
        by_cases e1 : j = n
        · simp (disch := omega) only [ncl, ms0 hM, ↓reduceIte, nadd, nmul, nsub, nlt, neq, ncl, nvi, ndiv, nrem, nand, nor, nxor, nshl, nshr, exI, exJ, exV, eq_self, true_and, and_true, true_or, or_true, if_true, if_false, not_true, not_false_eq_true, false_and, and_false, decide_true, decide_false, bi_T, bi_F, bi_0, bi_1, bi_z, bft, n10, n01, Nat.reduceEqDiff, Nat.reduceLT, Nat.reduceAdd, Nat.reduceMul, reduceCtorEq, hj, hn, b_Mo_seen_110, b_Mo_seen_160, e1]
          rw [e1] at no
          exact no (by unfold ahd; exact decide_eq_false (fun z => z.1 rfl)) _
        by_cases e2 : sOn S j k = true
        rotate_left
        · simp (disch := omega) only [ncl, ms0 hM, ↓reduceIte, nadd, nmul, nsub, nlt, neq, ncl, nvi, ndiv, nrem, nand, nor, nxor, nshl, nshr, exI, exJ, exV, eq_self, true_and, and_true, true_or, or_true, if_true, if_false, not_true, not_false_eq_true, false_and, and_false, decide_true, decide_false, bi_T, bi_F, bi_0, bi_1, bi_z, bft, n10, n01, Nat.reduceEqDiff, Nat.reduceLT, Nat.reduceAdd, Nat.reduceMul, reduceCtorEq, hj, b_Mo_seen_110, b_Mo_seen_116 hg, b_Mo_seen_123, b_Mo_seen_160, e1, c_mIsOn hg hB hM, e2]
          exact no (by unfold ahd; exact decide_eq_false (fun z => e2 z.2.1)) _
        by_cases e3 : mDp S j k < mDp S n k
        · simp (disch := omega) only [ncl, ms0 hM, ↓reduceIte, nadd, nmul, nsub, nlt, neq, ncl, nvi, ndiv, nrem, nand, nor, nxor, nshl, nshr, exI, exJ, exV, eq_self, true_and, and_true, true_or, or_true, if_true, if_false, not_true, not_false_eq_true, false_and, and_false, decide_true, decide_false, bi_T, bi_F, bi_0, bi_1, bi_z, bft, n10, n01, Nat.reduceEqDiff, Nat.reduceLT, Nat.reduceAdd, Nat.reduceMul, reduceCtorEq, hj, b_Mo_seen_110, b_Mo_seen_116 hg, b_Mo_seen_123, b_Mo_seen_126 hg, b_Mo_seen_133, b_Mo_seen_156, e1, c_mIsOn hg hB hM, e2, c_deepOf hg hB hM, e3]
          exact yes (decide_eq_true ⟨e1, e2, Or.inl e3⟩) e2 _
        by_cases e4 : mDp S j k = mDp S n k
        rotate_left
        · simp (disch := omega) only [ncl, ms0 hM, ↓reduceIte, nadd, nmul, nsub, nlt, neq, ncl, nvi, ndiv, nrem, nand, nor, nxor, nshl, nshr, exI, exJ, exV, eq_self, true_and, and_true, true_or, or_true, if_true, if_false, not_true, not_false_eq_true, false_and, and_false, decide_true, decide_false, bi_T, bi_F, bi_0, bi_1, bi_z, bft, n10, n01, Nat.reduceEqDiff, Nat.reduceLT, Nat.reduceAdd, Nat.reduceMul, reduceCtorEq, hj, b_Mo_seen_110, b_Mo_seen_116 hg, b_Mo_seen_123, b_Mo_seen_126 hg, b_Mo_seen_133, b_Mo_seen_138 hg, b_Mo_seen_145, b_Mo_seen_160, e1, c_mIsOn hg hB hM, e2, c_deepOf hg hB hM, e3, e4]
          exact no (decide_eq_false (fun z => by omega)) _
        by_cases e5 : j < n
        · simp (disch := omega) only [ncl, ms0 hM, nlt, hj, exI, exJ, exV, eq_self, true_and, and_true, true_or, or_true, if_true, if_false, not_true, not_false_eq_true, false_and, and_false, decide_true, decide_false, bi_T, bi_F, bi_0, bi_1, bi_z, bft, n10, n01, Nat.reduceEqDiff, Nat.reduceLT, Nat.reduceAdd, Nat.reduceMul, reduceCtorEq, b_Mo_seen_110, b_Mo_seen_116 hg, b_Mo_seen_123, b_Mo_seen_126 hg, b_Mo_seen_133, b_Mo_seen_138 hg, b_Mo_seen_145, b_Mo_seen_150, b_Mo_seen_156, neq, e1, c_mIsOn hg hB hM, e2, c_deepOf hg hB hM, e3, e4, e5]
          rw [← e4]
          simp (disch := omega) only [nlt, Nat.lt_irrefl, e3, exI, exJ, exV, eq_self, true_and, and_true, true_or, or_true, if_true, if_false, not_true, not_false_eq_true, false_and, and_false, decide_true, decide_false, bi_T, bi_F, bi_0, bi_1, bi_z, bft, n10, n01, Nat.reduceEqDiff, Nat.reduceLT, Nat.reduceAdd, Nat.reduceMul, reduceCtorEq, b_Mo_seen_138 hg, b_Mo_seen_145, b_Mo_seen_150, b_Mo_seen_156, neq, c_deepOf hg hB hM, e5]
          rw [e4]
          exact yes (decide_eq_true ⟨e1, e2, Or.inr ⟨e4, e5⟩⟩) e2 _
        · rw [← e4] at no ⊢
          simp (disch := omega) only [ncl, ms0 hM, nlt, hj, exI, exJ, exV, eq_self, true_and, and_true, true_or, or_true, if_true, if_false, not_true, not_false_eq_true, false_and, and_false, decide_true, decide_false, bi_T, bi_F, bi_0, bi_1, bi_z, bft, n10, n01, Nat.reduceEqDiff, Nat.reduceLT, Nat.reduceAdd, Nat.reduceMul, reduceCtorEq, b_Mo_seen_110, b_Mo_seen_116 hg, b_Mo_seen_123, b_Mo_seen_126 hg, b_Mo_seen_133, b_Mo_seen_138 hg, b_Mo_seen_145, b_Mo_seen_150, b_Mo_seen_160, neq, e1, c_mIsOn hg hB hM, e2, c_deepOf hg hB hM, Nat.lt_irrefl, e5]
          exact no (decide_eq_false (fun z => by omega)) _
  have ent : ∀ (w : Nat) (Q : aQ), w ≤ 1 → Q (some (.int (nI (fb_sm (fun r => pcI (nI (if w = 0 then shR S n k r else hidR S n k r 6 &&& shR S n k r))) 16)))) (g, u2 I 89 0 (nI 0), J) → a_call aTab aMX (d + 5) m_Mo_seen [.ref 89, .int (nI n), .int (nI k), .int (nI w)] (g, I, J) Q := by
    intro w Q hw hq
    have y1 : ¬ 2 < w := by omega
    have y2 : ¬ w = 2 := by omega
    simp (disch := omega) only [e_Mo_seen, b_Mo_seen_0 hg, b_Mo_seen_9, b_Mo_seen_12, b_Mo_seen_21, b_Mo_seen_24, b_Mo_seen_30, b_Mo_seen_33, b_Mo_seen_37, b_Mo_seen_38 hg, b_Mo_seen_41, b_Mo_seen_46 hg, b_Mo_seen_52, c_mIsBeat, hb, c_inI, nlt, neq, y1, y2, Nat.not_lt_zero, c_mIsOn hg hB hM, ho, c_deepOf hg hB hM, exI, exJ, exV, eq_self, true_and, and_true, true_or, or_true, if_true, if_false, not_true, not_false_eq_true, false_and, and_false, decide_true, decide_false, bi_T, bi_F, bi_0, bi_1, bi_z, bft, n10, n01, Nat.reduceEqDiff, Nat.reduceLT, Nat.reduceAdd, Nat.reduceMul, reduceCtorEq]
    exact lp w _ Q hw hM hq
  obtain ⟨w, rfl, -, hw⟩ := irng (by decide) (by decide) qw.1 qw.2
  have hc : w = 0 ∨ w = 1 ∨ w = 2 := by omega
  rcases hc with rfl | rfl | rfl
  · refine both_t h (nI (cB S n n k)) (fun Q hq => ?_) (fun Q hq => ent 0 Q (by decide) ?_)
    · simp (disch := omega) only [e_Cp_seen, b_Cp_seen_0 hg, b_Cp_seen_9, b_Cp_seen_12, b_Cp_seen_14, b_Cp_seen_40 hg, b_Cp_seen_50, b_Cp_seen_51 hg, b_Cp_seen_60, b_Cp_seen_61 hg, b_Cp_seen_70, b_Cp_seen_71, c_isOn hg hS, z1, c_cellsInBoth hg hS, exI, exJ, exV, eq_self, true_and, and_true, true_or, or_true, if_true, if_false, not_true, not_false_eq_true, false_and, and_false, decide_true, decide_false, bi_T, bi_F, bi_0, bi_1, bi_z, bft, n10, n01, Nat.reduceEqDiff, Nat.reduceLT, Nat.reduceAdd, Nat.reduceMul, reduceCtorEq]; exact hq
    · unfold cB at hq
      simp only [Nat.and_self] at hq
      exact hq
  · have n1 : (nI 1 = nI 0) = False := eq_false (by decide)
    refine both_t h (nI (hidC S n k)) (fun Q hq => ?_) (fun Q hq => ent 1 Q (by decide) ?_)
    · simp (disch := omega) only [e_Cp_seen, b_Cp_seen_0 hg, b_Cp_seen_9, b_Cp_seen_12, b_Cp_seen_14, b_Cp_seen_40 hg, b_Cp_seen_50, b_Cp_seen_51 hg, b_Cp_seen_60, b_Cp_seen_61 hg, b_Cp_seen_70, b_Cp_seen_71, c_isOn hg hS, z1, n1, c_hiddenCells hg hS ho, exI, exJ, exV, eq_self, true_and, and_true, true_or, or_true, if_true, if_false, not_true, not_false_eq_true, false_and, and_false, decide_true, decide_false, bi_T, bi_F, bi_0, bi_1, bi_z, bft, n10, n01, Nat.reduceEqDiff, Nat.reduceLT, Nat.reduceAdd, Nat.reduceMul, reduceCtorEq]; exact hq
    · exact hq
  · have n1 : (nI 2 = nI 0) = False := eq_false (by decide)
    have n2 : (nI 2 = nI 1) = False := eq_false (by decide)
    refine both_t h (nI (blurS S n k)) (fun Q hq => ?_) (fun Q hq => ?_)
    · simp (disch := omega) only [e_Cp_seen, b_Cp_seen_0 hg, b_Cp_seen_9, b_Cp_seen_12, b_Cp_seen_14, b_Cp_seen_40 hg, b_Cp_seen_50, b_Cp_seen_51 hg, b_Cp_seen_60, b_Cp_seen_61 hg, b_Cp_seen_70, b_Cp_seen_71, c_isOn hg hS, z1, n1, n2, c_blur hg hS ho, exI, exJ, exV, eq_self, true_and, and_true, true_or, or_true, if_true, if_false, not_true, not_false_eq_true, false_and, and_false, decide_true, decide_false, bi_T, bi_F, bi_0, bi_1, bi_z, bft, n10, n01, Nat.reduceEqDiff, Nat.reduceLT, Nat.reduceAdd, Nat.reduceMul, reduceCtorEq]; exact hq
    · have b1 : 100 * S 10 1 * (S 10 0 - mDp S n k) < 2147483648 := Nat.lt_of_le_of_lt (Nat.mul_le_mul (show 100 * S 10 1 ≤ 1600 by omega) (show S 10 0 - mDp S n k ≤ 32 by omega)) (by decide)
      have b2 : ¬ mDp S n k = 0 := by omega
      simp (disch := omega) only [e_Mo_seen, b_Mo_seen_0 hg, b_Mo_seen_9, b_Mo_seen_12, b_Mo_seen_21, b_Mo_seen_24, b_Mo_seen_30, b_Mo_seen_33, b_Mo_seen_37, b_Mo_seen_38 hg, b_Mo_seen_41, b_Mo_seen_46 hg, b_Mo_seen_52, b_Mo_seen_59 hg, b_Mo_seen_66 hg, b_Mo_seen_72, c_mIsBeat, hb, c_inI, decide_eq_true qw, c_mIsOn hg hB hM, ho, c_deepOf hg hB hM, c_term hg, ms2 hM, ms2r hM, nmul, nsub, ndiv, neq, b2, exI, exJ, exV, eq_self, true_and, and_true, true_or, or_true, if_true, if_false, not_true, not_false_eq_true, false_and, and_false, decide_true, decide_false, bi_T, bi_F, bi_0, bi_1, bi_z, bft, n10, n01, Nat.reduceEqDiff, Nat.reduceLT, Nat.reduceAdd, Nat.reduceMul, reduceCtorEq]
      exact hq
end LGT
