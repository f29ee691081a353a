/-! ===== count ===== -/
def mxS (S : Nat → Nat → Nat) : Nat → Nat
  | 0 => 0
  | k + 1 => if mxS S k < pcI (nI (sOns S k)) then pcI (nI (sOns S k)) else mxS S k
theorem mxS_le (S : Nat → Nat → Nat) : ∀ k, mxS S k ≤ 32
  | 0 => by show 0 ≤ 32; omega
  | k + 1 => by
    show (if mxS S k < pcI (nI (sOns S k)) then pcI (nI (sOns S k)) else mxS S k) ≤ 32
    split
    · exact pcI_le _
    · exact mxS_le S k
section CNT
variable {N : Nat} {X : Nat → Int32} {ow : Nat → Nat} {S : Nat → Nat → Nat} {LF : aLF} {g : aG} {I : Nat → Nat → Int32} {J : Nat → Nat → Int64} {Q : aQ} {d : Nat}
theorem c_countBeats (hg : Geo g) (hS : CS S I) {w : Nat} (hw : w < 100) : a_call aTab aMX (d + 4) m_Cp_countBeats [.ref 6, .int (nI w)] (g, I, J) Q = Q (some (.int (nI (if w = 2 then fb_sm (fun b => pcI (nI (sOns S b))) 12 else if w = 3 then fb_sm (fun b => if 0 < pcI (nI (sOns S b)) then 1 else 0) 12 else mxS S 12)))) (g, I, J) := by
  rw [e_Cp_countBeats, b_Cp_countBeats_0]
  obtain ⟨F, eF⟩ : ∃ F : Nat → Nat, F = fun b => pcI (nI (sOns S b)) := ⟨_, rfl⟩
  obtain ⟨G, eG⟩ : ∃ G : Nat → Nat, G = fun b => if 0 < pcI (nI (sOns S b)) then 1 else 0 := ⟨_, rfl⟩
  rw [← eF, ← eG]
  refine dn (P := fun k => ∀ v6, a_wp aTab aMX (d + 3) m_Cp_countBeats 10 [.ref 6, .int (nI w), .int (nI (fb_sm F k)), .int (nI (fb_sm G k)), .int (nI (mxS S k)), .int (nI k), v6] [] (g, I, J) Q = Q (some (.int (nI (if w = 2 then fb_sm F 12 else if w = 3 then fb_sm G 12 else mxS S 12)))) (g, I, J)) (n := 12) ?_ ?_ 0 (by omega) _
  · intro v6
    rw [b_Cp_countBeats_10]
    simp (disch := omega) only [↓reduceIte, nadd, nmul, nsub, nlt, neq, ncl, nvi, ndiv, nrem, nand, nor, nxor, nshl, nshr, exI, exJ, exV, eq_self, true_and, and_true, true_or, or_true, if_true, if_false, not_true, not_false_eq_true, false_and, and_false, decide_true, decide_false, bi_T, bi_F, bi_0, bi_1, bi_z, bft, n10, n01, Nat.reduceEqDiff, Nat.reduceLT, Nat.reduceAdd, Nat.reduceMul, reduceCtorEq, Nat.lt_irrefl]
    rw [b_Cp_countBeats_64]
    by_cases q2 : w = 2
    · simp (disch := omega) only [↓reduceIte, nadd, nmul, nsub, nlt, neq, ncl, nvi, ndiv, nrem, nand, nor, nxor, nshl, nshr, exI, exJ, exV, eq_self, true_and, and_true, true_or, or_true, if_true, if_false, not_true, not_false_eq_true, false_and, and_false, decide_true, decide_false, bi_T, bi_F, bi_0, bi_1, bi_z, bft, n10, n01, Nat.reduceEqDiff, Nat.reduceLT, Nat.reduceAdd, Nat.reduceMul, reduceCtorEq, q2, b_Cp_countBeats_69, b_Cp_countBeats_84]
    by_cases q3 : w = 3
    · simp (disch := omega) only [↓reduceIte, nadd, nmul, nsub, nlt, neq, ncl, nvi, ndiv, nrem, nand, nor, nxor, nshl, nshr, exI, exJ, exV, eq_self, true_and, and_true, true_or, or_true, if_true, if_false, not_true, not_false_eq_true, false_and, and_false, decide_true, decide_false, bi_T, bi_F, bi_0, bi_1, bi_z, bft, n10, n01, Nat.reduceEqDiff, Nat.reduceLT, Nat.reduceAdd, Nat.reduceMul, reduceCtorEq, q2, q3, b_Cp_countBeats_73, b_Cp_countBeats_78, b_Cp_countBeats_84]
    simp (disch := omega) only [↓reduceIte, nadd, nmul, nsub, nlt, neq, ncl, nvi, ndiv, nrem, nand, nor, nxor, nshl, nshr, exI, exJ, exV, eq_self, true_and, and_true, true_or, or_true, if_true, if_false, not_true, not_false_eq_true, false_and, and_false, decide_true, decide_false, bi_T, bi_F, bi_0, bi_1, bi_z, bft, n10, n01, Nat.reduceEqDiff, Nat.reduceLT, Nat.reduceAdd, Nat.reduceMul, reduceCtorEq, q2, q3, b_Cp_countBeats_73, b_Cp_countBeats_82, b_Cp_countBeats_84]
  · intro k hk ih v6
    have hp := pcI_le (nI (sOns S k))
    have hm := mxS_le S k
    rw [fb_sm_succ, fb_sm_succ, show F k = pcI (nI (sOns S k)) by rw [eF], show G k = if 0 < pcI (nI (sOns S k)) then 1 else 0 by rw [eG], show mxS S (k + 1) = if mxS S k < pcI (nI (sOns S k)) then pcI (nI (sOns S k)) else mxS S k from rfl] at ih
    rw [b_Cp_countBeats_10]
    by_cases z : 0 < pcI (nI (sOns S k))
    · by_cases y : mxS S k < pcI (nI (sOns S k))
      · simp only [z, y, exI, exJ, exV, eq_self, true_and, and_true, true_or, or_true, if_true, if_false, not_true, not_false_eq_true, false_and, and_false, decide_true, decide_false, bi_T, bi_F, bi_0, bi_1, bi_z, bft, n10, n01, Nat.reduceEqDiff, Nat.reduceLT, Nat.reduceAdd, Nat.reduceMul, reduceCtorEq] at ih
        simp (disch := omega) only [↓reduceIte, nadd, nmul, nsub, nlt, neq, ncl, nvi, ndiv, nrem, nand, nor, nxor, nshl, nshr, exI, exJ, exV, eq_self, true_and, and_true, true_or, or_true, if_true, if_false, not_true, not_false_eq_true, false_and, and_false, decide_true, decide_false, bi_T, bi_F, bi_0, bi_1, bi_z, bft, n10, n01, Nat.reduceEqDiff, Nat.reduceLT, Nat.reduceAdd, Nat.reduceMul, reduceCtorEq, hk, b_Cp_countBeats_17 hg, b_Cp_countBeats_26, b_Cp_countBeats_29, b_Cp_countBeats_42, b_Cp_countBeats_47, c_onBits hg hS, c_bitI, z, y]
        exact ih _
      · simp only [z, y, exI, exJ, exV, eq_self, true_and, and_true, true_or, or_true, if_true, if_false, not_true, not_false_eq_true, false_and, and_false, decide_true, decide_false, bi_T, bi_F, bi_0, bi_1, bi_z, bft, n10, n01, Nat.reduceEqDiff, Nat.reduceLT, Nat.reduceAdd, Nat.reduceMul, reduceCtorEq] at ih
        simp (disch := omega) only [↓reduceIte, nadd, nmul, nsub, nlt, neq, ncl, nvi, ndiv, nrem, nand, nor, nxor, nshl, nshr, exI, exJ, exV, eq_self, true_and, and_true, true_or, or_true, if_true, if_false, not_true, not_false_eq_true, false_and, and_false, decide_true, decide_false, bi_T, bi_F, bi_0, bi_1, bi_z, bft, n10, n01, Nat.reduceEqDiff, Nat.reduceLT, Nat.reduceAdd, Nat.reduceMul, reduceCtorEq, hk, b_Cp_countBeats_17 hg, b_Cp_countBeats_26, b_Cp_countBeats_29, b_Cp_countBeats_42, b_Cp_countBeats_47, c_onBits hg hS, c_bitI, z, y]
        exact ih _
    · have y : ¬ mxS S k < pcI (nI (sOns S k)) := by omega
      simp only [z, y, exI, exJ, exV, eq_self, true_and, and_true, true_or, or_true, if_true, if_false, not_true, not_false_eq_true, false_and, and_false, decide_true, decide_false, bi_T, bi_F, bi_0, bi_1, bi_z, bft, n10, n01, Nat.reduceEqDiff, Nat.reduceLT, Nat.reduceAdd, Nat.reduceMul, reduceCtorEq] at ih
      simp (disch := omega) only [↓reduceIte, nadd, nmul, nsub, nlt, neq, ncl, nvi, ndiv, nrem, nand, nor, nxor, nshl, nshr, exI, exJ, exV, eq_self, true_and, and_true, true_or, or_true, if_true, if_false, not_true, not_false_eq_true, false_and, and_false, decide_true, decide_false, bi_T, bi_F, bi_0, bi_1, bi_z, bft, n10, n01, Nat.reduceEqDiff, Nat.reduceLT, Nat.reduceAdd, Nat.reduceMul, reduceCtorEq, hk, b_Cp_countBeats_17 hg, b_Cp_countBeats_26, b_Cp_countBeats_29, b_Cp_countBeats_46, b_Cp_countBeats_47, c_onBits hg hS, c_bitI, z, y]
      exact ih _
theorem m_count {x : Int32} (h : INV N X ow S LF g I J) : BOTH N X (d + 5) m_Cp_count m_Mo_count [.int x] (g, I, J) := by
  have hg := h.1.1
  have hS := h.2.2.1.1
  have hM := hM0 h
  have hB := hS.2
  have h7 := sb7 hB 0
  have hL := h.2.2.1.2.2
  obtain ⟨B, t, t1, t2, t3, t4, t5⟩ := h.2.2.2.2.1
  obtain ⟨s1, s2, s3, s4, s5, s6⟩ := h.2.2.2.2.2.1
  obtain ⟨F, eF⟩ : ∃ F : Nat → Nat, F = fun b => pcI (nI (sOns S b)) := ⟨_, rfl⟩
  obtain ⟨G, eG⟩ : ∃ G : Nat → Nat, G = fun b => if 0 < pcI (nI (sOns S b)) then 1 else 0 := ⟨_, rfl⟩
  have ref : ∀ Q : aQ, (∀ v6 v7, a_wp aTab aMX (d + 4) m_Mo_count 111 [.ref 89, .int x, .int (nI (fb_sm F 12)), .int (nI (fb_sm G 12)), .int (nI (mxS S 12)), .int (nI (tCells (I 14))), v6, v7] [] (g, u2 I 89 0 (nI 0), J) Q) → a_call aTab aMX (d + 5) m_Mo_count [.ref 89, .int x] (g, I, J) Q := by
    intro Q hq
    rw [e_Mo_count, b_Mo_count_0 hg]
    generalize u2 I 89 0 (nI 0) = I0 at hM hq ⊢
    refine dn (P := fun k => ∀ v7, a_wp aTab aMX (d + 4) m_Mo_count 18 [.ref 89, .int x, .int (nI (fb_sm F k)), .int (nI (fb_sm G k)), .int (nI (mxS S k)), .int (nI 0), .int (nI k), v7] [] (g, I0, J) Q) (n := 12) ?_ ?_ 0 (by omega) _
    · intro v7
      rw [b_Mo_count_18]
      simp (disch := omega) only [↓reduceIte, nadd, nmul, nsub, nlt, neq, ncl, nvi, ndiv, nrem, nand, nor, nxor, nshl, nshr, exI, exJ, exV, eq_self, true_and, and_true, true_or, or_true, if_true, if_false, not_true, not_false_eq_true, false_and, and_false, decide_true, decide_false, bi_T, bi_F, bi_0, bi_1, bi_z, bft, n10, n01, Nat.reduceEqDiff, Nat.reduceLT, Nat.reduceAdd, Nat.reduceMul, reduceCtorEq, Nat.lt_irrefl, b_Mo_count_76]
      refine dn (P := fun r => ∀ v7, a_wp aTab aMX (d + 4) m_Mo_count 79 [.ref 89, .int x, .int (nI (fb_sm F 12)), .int (nI (fb_sm G 12)), .int (nI (mxS S 12)), .int (nI (fb_sm (fun r => pcI (I 14 r)) r)), .int (nI r), v7] [] (g, I0, J) Q) (n := 16) ?_ ?_ 0 (by omega) _
      · intro v7
        rw [b_Mo_count_79]
        simp (disch := omega) only [↓reduceIte, nadd, nmul, nsub, nlt, neq, ncl, nvi, ndiv, nrem, nand, nor, nxor, nshl, nshr, exI, exJ, exV, eq_self, true_and, and_true, true_or, or_true, if_true, if_false, not_true, not_false_eq_true, false_and, and_false, decide_true, decide_false, bi_T, bi_F, bi_0, bi_1, bi_z, bft, n10, n01, Nat.reduceEqDiff, Nat.reduceLT, Nat.reduceAdd, Nat.reduceMul, reduceCtorEq, Nat.lt_irrefl]
        exact hq _ _
      · intro r hr ih v7
        rw [b_Mo_count_79]
        simp (disch := omega) only [↓reduceIte, nadd, nmul, nsub, nlt, neq, ncl, nvi, ndiv, nrem, nand, nor, nxor, nshl, nshr, exI, exJ, exV, eq_self, true_and, and_true, true_or, or_true, if_true, if_false, not_true, not_false_eq_true, false_and, and_false, decide_true, decide_false, bi_T, bi_F, bi_0, bi_1, bi_z, bft, n10, n01, Nat.reduceEqDiff, Nat.reduceLT, Nat.reduceAdd, Nat.reduceMul, reduceCtorEq, hr, b_Mo_count_86 hg, b_Mo_count_102, ms352 hM, c_bits]
        exact ih _
    · intro k hk ih v7
      have hp := pcI_le (nI (sOns S k))
      have hm := mxS_le S k
      rw [fb_sm_succ, fb_sm_succ, show F k = pcI (nI (sOns S k)) by rw [eF], show G k = if 0 < pcI (nI (sOns S k)) then 1 else 0 by rw [eG], show mxS S (k + 1) = if mxS S k < pcI (nI (sOns S k)) then pcI (nI (sOns S k)) else mxS S k from rfl] at ih
      rw [b_Mo_count_18]
      by_cases z : 0 < pcI (nI (sOns S k))
      · by_cases y : mxS S k < pcI (nI (sOns S k))
        · simp only [z, y, exI, exJ, exV, eq_self, true_and, and_true, true_or, or_true, if_true, if_false, not_true, not_false_eq_true, false_and, and_false, decide_true, decide_false, bi_T, bi_F, bi_0, bi_1, bi_z, bft, n10, n01, Nat.reduceEqDiff, Nat.reduceLT, Nat.reduceAdd, Nat.reduceMul, reduceCtorEq] at ih
          simp (disch := omega) only [↓reduceIte, nadd, nmul, nsub, nlt, neq, ncl, nvi, ndiv, nrem, nand, nor, nxor, nshl, nshr, exI, exJ, exV, eq_self, true_and, and_true, true_or, or_true, if_true, if_false, not_true, not_false_eq_true, false_and, and_false, decide_true, decide_false, bi_T, bi_F, bi_0, bi_1, bi_z, bft, n10, n01, Nat.reduceEqDiff, Nat.reduceLT, Nat.reduceAdd, Nat.reduceMul, reduceCtorEq, hk, b_Mo_count_25 hg, b_Mo_count_31, b_Mo_count_34, b_Mo_count_47, b_Mo_count_52, b_Mo_count_61, b_Mo_count_68, c_mOnBits hg hB hM, c_bits, z, y]
          exact ih _
        · simp only [z, y, exI, exJ, exV, eq_self, true_and, and_true, true_or, or_true, if_true, if_false, not_true, not_false_eq_true, false_and, and_false, decide_true, decide_false, bi_T, bi_F, bi_0, bi_1, bi_z, bft, n10, n01, Nat.reduceEqDiff, Nat.reduceLT, Nat.reduceAdd, Nat.reduceMul, reduceCtorEq] at ih
          simp (disch := omega) only [↓reduceIte, nadd, nmul, nsub, nlt, neq, ncl, nvi, ndiv, nrem, nand, nor, nxor, nshl, nshr, exI, exJ, exV, eq_self, true_and, and_true, true_or, or_true, if_true, if_false, not_true, not_false_eq_true, false_and, and_false, decide_true, decide_false, bi_T, bi_F, bi_0, bi_1, bi_z, bft, n10, n01, Nat.reduceEqDiff, Nat.reduceLT, Nat.reduceAdd, Nat.reduceMul, reduceCtorEq, hk, b_Mo_count_25 hg, b_Mo_count_31, b_Mo_count_34, b_Mo_count_47, b_Mo_count_52, b_Mo_count_66, b_Mo_count_68, c_mOnBits hg hB hM, c_bits, z, y]
          exact ih _
      · have y : ¬ mxS S k < pcI (nI (sOns S k)) := by omega
        simp only [z, y, exI, exJ, exV, eq_self, true_and, and_true, true_or, or_true, if_true, if_false, not_true, not_false_eq_true, false_and, and_false, decide_true, decide_false, bi_T, bi_F, bi_0, bi_1, bi_z, bft, n10, n01, Nat.reduceEqDiff, Nat.reduceLT, Nat.reduceAdd, Nat.reduceMul, reduceCtorEq] at ih
        simp (disch := omega) only [↓reduceIte, nadd, nmul, nsub, nlt, neq, ncl, nvi, ndiv, nrem, nand, nor, nxor, nshl, nshr, exI, exJ, exV, eq_self, true_and, and_true, true_or, or_true, if_true, if_false, not_true, not_false_eq_true, false_and, and_false, decide_true, decide_false, bi_T, bi_F, bi_0, bi_1, bi_z, bft, n10, n01, Nat.reduceEqDiff, Nat.reduceLT, Nat.reduceAdd, Nat.reduceMul, reduceCtorEq, hk, b_Mo_count_25 hg, b_Mo_count_31, b_Mo_count_34, b_Mo_count_51, b_Mo_count_52, b_Mo_count_66, b_Mo_count_68, c_mOnBits hg hB hM, c_bits, z, y]
        exact ih _
  have e1 : I 91 1 = I 15 0 := hL.1.symm
  rcases nIx x 12 (by decide) with w | ⟨w1, w2⟩ | ⟨m, hm, rfl⟩
  · have hc : ∀ k, k < 12 → (x = nI k) = False := fun k hk => eq_false (fun z => by
      rw [z, nlt (by omega) (by omega)] at w
      omega)
    refine both_t h (-1) (fun Q hq => ?_) (fun Q hq => ref Q (fun v6 v7 => ?_))
    · simp (disch := omega) only [e_Cp_count, b_Cp_count_0, b_Cp_count_64 hg, b_Cp_count_72 hg, b_Cp_count_83 hg, b_Cp_count_88, b_Cp_count_89 hg, b_Cp_count_96, b_Cp_count_97 hg, b_Cp_count_102 hg, b_Cp_count_109 hg, b_Cp_count_116 hg, b_Cp_count_123 hg, b_Cp_count_130 hg, b_Cp_count_138, hc, exI, exJ, exV, eq_self, true_and, and_true, true_or, or_true, if_true, if_false, not_true, not_false_eq_true, false_and, and_false, decide_true, decide_false, bi_T, bi_F, bi_0, bi_1, bi_z, bft, n10, n01, Nat.reduceEqDiff, Nat.reduceLT, Nat.reduceAdd, Nat.reduceMul, reduceCtorEq]; exact hq
    · simp (disch := omega) only [b_Mo_count_111, b_Mo_count_241, hc, exI, exJ, exV, eq_self, true_and, and_true, true_or, or_true, if_true, if_false, not_true, not_false_eq_true, false_and, and_false, decide_true, decide_false, bi_T, bi_F, bi_0, bi_1, bi_z, bft, n10, n01, Nat.reduceEqDiff, Nat.reduceLT, Nat.reduceAdd, Nat.reduceMul, reduceCtorEq]; exact hq
  · have hc : ∀ k, k < 12 → (x = nI k) = False := fun k hk => eq_false (fun z => by
      rw [z, nlt (by omega) (by omega)] at w2
      omega)
    refine both_t h (-1) (fun Q hq => ?_) (fun Q hq => ref Q (fun v6 v7 => ?_))
    · simp (disch := omega) only [e_Cp_count, b_Cp_count_0, b_Cp_count_64 hg, b_Cp_count_72 hg, b_Cp_count_83 hg, b_Cp_count_88, b_Cp_count_89 hg, b_Cp_count_96, b_Cp_count_97 hg, b_Cp_count_102 hg, b_Cp_count_109 hg, b_Cp_count_116 hg, b_Cp_count_123 hg, b_Cp_count_130 hg, b_Cp_count_138, hc, exI, exJ, exV, eq_self, true_and, and_true, true_or, or_true, if_true, if_false, not_true, not_false_eq_true, false_and, and_false, decide_true, decide_false, bi_T, bi_F, bi_0, bi_1, bi_z, bft, n10, n01, Nat.reduceEqDiff, Nat.reduceLT, Nat.reduceAdd, Nat.reduceMul, reduceCtorEq]; exact hq
    · simp (disch := omega) only [b_Mo_count_111, b_Mo_count_241, hc, exI, exJ, exV, eq_self, true_and, and_true, true_or, or_true, if_true, if_false, not_true, not_false_eq_true, false_and, and_false, decide_true, decide_false, bi_T, bi_F, bi_0, bi_1, bi_z, bft, n10, n01, Nat.reduceEqDiff, Nat.reduceLT, Nat.reduceAdd, Nat.reduceMul, reduceCtorEq]; exact hq
  have h87 : ∀ r, 1 ≤ r → r < 7 → I 90 r = I 88 r := fun r y1 y2 => (s6 r y1 y2).symm
  have hcc : m = 0 ∨ m = 1 ∨ m = 2 ∨ m = 3 ∨ m = 4 ∨ m = 5 ∨ m = 6 ∨ m = 7 ∨ m = 8 ∨ m = 9 ∨ m = 10 ∨ m = 11 := by omega
  rcases hcc with rfl | rfl | rfl | rfl | rfl | rfl | rfl | rfl | rfl | rfl | rfl | rfl
  · refine both_t h (nI (S 7 0)) (fun Q hq => ?_) (fun Q hq => ref Q (fun v6 v7 => ?_))
    · simp (disch := omega) only [e_Cp_count, b_Cp_count_0, b_Cp_count_64 hg, b_Cp_count_72 hg, b_Cp_count_83 hg, b_Cp_count_88, b_Cp_count_89 hg, b_Cp_count_96, b_Cp_count_97 hg, b_Cp_count_102 hg, b_Cp_count_109 hg, b_Cp_count_116 hg, b_Cp_count_123 hg, b_Cp_count_130 hg, b_Cp_count_138, neq, cs7 hS, exI, exJ, exV, eq_self, true_and, and_true, true_or, or_true, if_true, if_false, not_true, not_false_eq_true, false_and, and_false, decide_true, decide_false, bi_T, bi_F, bi_0, bi_1, bi_z, bft, n10, n01, Nat.reduceEqDiff, Nat.reduceLT, Nat.reduceAdd, Nat.reduceMul, reduceCtorEq]; exact hq
    · simp (disch := omega) only [b_Mo_count_111, b_Mo_count_176 hg, neq, ncl, ms0 hM, exI, exJ, exV, eq_self, true_and, and_true, true_or, or_true, if_true, if_false, not_true, not_false_eq_true, false_and, and_false, decide_true, decide_false, bi_T, bi_F, bi_0, bi_1, bi_z, bft, n10, n01, Nat.reduceEqDiff, Nat.reduceLT, Nat.reduceAdd, Nat.reduceMul, reduceCtorEq]; exact hq
  · refine both_t h (I 15 0) (fun Q hq => ?_) (fun Q hq => ref Q (fun v6 v7 => ?_))
    · simp (disch := omega) only [e_Cp_count, b_Cp_count_0, b_Cp_count_64 hg, b_Cp_count_72 hg, b_Cp_count_83 hg, b_Cp_count_88, b_Cp_count_89 hg, b_Cp_count_96, b_Cp_count_97 hg, b_Cp_count_102 hg, b_Cp_count_109 hg, b_Cp_count_116 hg, b_Cp_count_123 hg, b_Cp_count_130 hg, b_Cp_count_138, neq, exI, exJ, exV, eq_self, true_and, and_true, true_or, or_true, if_true, if_false, not_true, not_false_eq_true, false_and, and_false, decide_true, decide_false, bi_T, bi_F, bi_0, bi_1, bi_z, bft, n10, n01, Nat.reduceEqDiff, Nat.reduceLT, Nat.reduceAdd, Nat.reduceMul, reduceCtorEq]; exact hq
    · simp (disch := omega) only [b_Mo_count_111, b_Mo_count_183 hg, neq, ncl, u2_n, e1, exI, exJ, exV, eq_self, true_and, and_true, true_or, or_true, if_true, if_false, not_true, not_false_eq_true, false_and, and_false, decide_true, decide_false, bi_T, bi_F, bi_0, bi_1, bi_z, bft, n10, n01, Nat.reduceEqDiff, Nat.reduceLT, Nat.reduceAdd, Nat.reduceMul, reduceCtorEq]; exact hq
  · refine both_t h (nI (fb_sm F 12)) (fun Q hq => ?_) (fun Q hq => ref Q (fun v6 v7 => ?_))
    · rw [eF] at hq; simp (disch := omega) only [e_Cp_count, b_Cp_count_0, b_Cp_count_64 hg, b_Cp_count_72 hg, b_Cp_count_83 hg, b_Cp_count_88, b_Cp_count_89 hg, b_Cp_count_96, b_Cp_count_97 hg, b_Cp_count_102 hg, b_Cp_count_109 hg, b_Cp_count_116 hg, b_Cp_count_123 hg, b_Cp_count_130 hg, b_Cp_count_138, neq, c_countBeats hg hS, exI, exJ, exV, eq_self, true_and, and_true, true_or, or_true, if_true, if_false, not_true, not_false_eq_true, false_and, and_false, decide_true, decide_false, bi_T, bi_F, bi_0, bi_1, bi_z, bft, n10, n01, Nat.reduceEqDiff, Nat.reduceLT, Nat.reduceAdd, Nat.reduceMul, reduceCtorEq]; exact hq
    · simp (disch := omega) only [b_Mo_count_111, b_Mo_count_190, neq, exI, exJ, exV, eq_self, true_and, and_true, true_or, or_true, if_true, if_false, not_true, not_false_eq_true, false_and, and_false, decide_true, decide_false, bi_T, bi_F, bi_0, bi_1, bi_z, bft, n10, n01, Nat.reduceEqDiff, Nat.reduceLT, Nat.reduceAdd, Nat.reduceMul, reduceCtorEq]; exact hq
  · refine both_t h (nI (fb_sm G 12)) (fun Q hq => ?_) (fun Q hq => ref Q (fun v6 v7 => ?_))
    · rw [eG] at hq; simp (disch := omega) only [e_Cp_count, b_Cp_count_0, b_Cp_count_64 hg, b_Cp_count_72 hg, b_Cp_count_83 hg, b_Cp_count_88, b_Cp_count_89 hg, b_Cp_count_96, b_Cp_count_97 hg, b_Cp_count_102 hg, b_Cp_count_109 hg, b_Cp_count_116 hg, b_Cp_count_123 hg, b_Cp_count_130 hg, b_Cp_count_138, neq, c_countBeats hg hS, exI, exJ, exV, eq_self, true_and, and_true, true_or, or_true, if_true, if_false, not_true, not_false_eq_true, false_and, and_false, decide_true, decide_false, bi_T, bi_F, bi_0, bi_1, bi_z, bft, n10, n01, Nat.reduceEqDiff, Nat.reduceLT, Nat.reduceAdd, Nat.reduceMul, reduceCtorEq]; exact hq
    · simp (disch := omega) only [b_Mo_count_111, b_Mo_count_192, neq, exI, exJ, exV, eq_self, true_and, and_true, true_or, or_true, if_true, if_false, not_true, not_false_eq_true, false_and, and_false, decide_true, decide_false, bi_T, bi_F, bi_0, bi_1, bi_z, bft, n10, n01, Nat.reduceEqDiff, Nat.reduceLT, Nat.reduceAdd, Nat.reduceMul, reduceCtorEq]; exact hq
  · refine both_t h (nI (mxS S 12)) (fun Q hq => ?_) (fun Q hq => ref Q (fun v6 v7 => ?_))
    · simp (disch := omega) only [e_Cp_count, b_Cp_count_0, b_Cp_count_64 hg, b_Cp_count_72 hg, b_Cp_count_83 hg, b_Cp_count_88, b_Cp_count_89 hg, b_Cp_count_96, b_Cp_count_97 hg, b_Cp_count_102 hg, b_Cp_count_109 hg, b_Cp_count_116 hg, b_Cp_count_123 hg, b_Cp_count_130 hg, b_Cp_count_138, neq, c_countBeats hg hS, exI, exJ, exV, eq_self, true_and, and_true, true_or, or_true, if_true, if_false, not_true, not_false_eq_true, false_and, and_false, decide_true, decide_false, bi_T, bi_F, bi_0, bi_1, bi_z, bft, n10, n01, Nat.reduceEqDiff, Nat.reduceLT, Nat.reduceAdd, Nat.reduceMul, reduceCtorEq]; exact hq
    · simp (disch := omega) only [b_Mo_count_111, b_Mo_count_194, neq, exI, exJ, exV, eq_self, true_and, and_true, true_or, or_true, if_true, if_false, not_true, not_false_eq_true, false_and, and_false, decide_true, decide_false, bi_T, bi_F, bi_0, bi_1, bi_z, bft, n10, n01, Nat.reduceEqDiff, Nat.reduceLT, Nat.reduceAdd, Nat.reduceMul, reduceCtorEq]; exact hq
  · refine both_t h (nI (tCells (I 14))) (fun Q hq => ?_) (fun Q hq => ref Q (fun v6 v7 => ?_))
    · simp (disch := omega) only [e_Cp_count, b_Cp_count_0, b_Cp_count_64 hg, b_Cp_count_72 hg, b_Cp_count_83 hg, b_Cp_count_88, b_Cp_count_89 hg, b_Cp_count_96, b_Cp_count_97 hg, b_Cp_count_102 hg, b_Cp_count_109 hg, b_Cp_count_116 hg, b_Cp_count_123 hg, b_Cp_count_130 hg, b_Cp_count_138, neq, c_toldCells hg, exI, exJ, exV, eq_self, true_and, and_true, true_or, or_true, if_true, if_false, not_true, not_false_eq_true, false_and, and_false, decide_true, decide_false, bi_T, bi_F, bi_0, bi_1, bi_z, bft, n10, n01, Nat.reduceEqDiff, Nat.reduceLT, Nat.reduceAdd, Nat.reduceMul, reduceCtorEq]; exact hq
    · simp (disch := omega) only [b_Mo_count_111, b_Mo_count_197, neq, exI, exJ, exV, eq_self, true_and, and_true, true_or, or_true, if_true, if_false, not_true, not_false_eq_true, false_and, and_false, decide_true, decide_false, bi_T, bi_F, bi_0, bi_1, bi_z, bft, n10, n01, Nat.reduceEqDiff, Nat.reduceLT, Nat.reduceAdd, Nat.reduceMul, reduceCtorEq]; exact hq
  · refine both_t h (nI t) (fun Q hq => ?_) (fun Q hq => ref Q (fun v6 v7 => ?_))
    · simp (disch := omega) only [e_Cp_count, b_Cp_count_0, b_Cp_count_64 hg, b_Cp_count_72 hg, b_Cp_count_83 hg, b_Cp_count_88, b_Cp_count_89 hg, b_Cp_count_96, b_Cp_count_97 hg, b_Cp_count_102 hg, b_Cp_count_109 hg, b_Cp_count_116 hg, b_Cp_count_123 hg, b_Cp_count_130 hg, b_Cp_count_138, neq, t3, exI, exJ, exV, eq_self, true_and, and_true, true_or, or_true, if_true, if_false, not_true, not_false_eq_true, false_and, and_false, decide_true, decide_false, bi_T, bi_F, bi_0, bi_1, bi_z, bft, n10, n01, Nat.reduceEqDiff, Nat.reduceLT, Nat.reduceAdd, Nat.reduceMul, reduceCtorEq]; exact hq
    · simp (disch := omega) only [b_Mo_count_111, b_Mo_count_200 hg, neq, u2_n, t4, exI, exJ, exV, eq_self, true_and, and_true, true_or, or_true, if_true, if_false, not_true, not_false_eq_true, false_and, and_false, decide_true, decide_false, bi_T, bi_F, bi_0, bi_1, bi_z, bft, n10, n01, Nat.reduceEqDiff, Nat.reduceLT, Nat.reduceAdd, Nat.reduceMul, reduceCtorEq]; exact hq
  · refine both_t h (I 88 1) (fun Q hq => ?_) (fun Q hq => ref Q (fun v6 v7 => ?_))
    · simp (disch := omega) only [e_Cp_count, b_Cp_count_0, b_Cp_count_64 hg, b_Cp_count_72 hg, b_Cp_count_83 hg, b_Cp_count_88, b_Cp_count_89 hg, b_Cp_count_96, b_Cp_count_97 hg, b_Cp_count_102 hg, b_Cp_count_109 hg, b_Cp_count_116 hg, b_Cp_count_123 hg, b_Cp_count_130 hg, b_Cp_count_138, neq, ncl, exI, exJ, exV, eq_self, true_and, and_true, true_or, or_true, if_true, if_false, not_true, not_false_eq_true, false_and, and_false, decide_true, decide_false, bi_T, bi_F, bi_0, bi_1, bi_z, bft, n10, n01, Nat.reduceEqDiff, Nat.reduceLT, Nat.reduceAdd, Nat.reduceMul, reduceCtorEq]; exact hq
    · simp (disch := omega) only [b_Mo_count_111, b_Mo_count_205 hg, neq, ncl, u2_n, h87, exI, exJ, exV, eq_self, true_and, and_true, true_or, or_true, if_true, if_false, not_true, not_false_eq_true, false_and, and_false, decide_true, decide_false, bi_T, bi_F, bi_0, bi_1, bi_z, bft, n10, n01, Nat.reduceEqDiff, Nat.reduceLT, Nat.reduceAdd, Nat.reduceMul, reduceCtorEq]; exact hq
  · refine both_t h (I 88 2) (fun Q hq => ?_) (fun Q hq => ref Q (fun v6 v7 => ?_))
    · simp (disch := omega) only [e_Cp_count, b_Cp_count_0, b_Cp_count_64 hg, b_Cp_count_72 hg, b_Cp_count_83 hg, b_Cp_count_88, b_Cp_count_89 hg, b_Cp_count_96, b_Cp_count_97 hg, b_Cp_count_102 hg, b_Cp_count_109 hg, b_Cp_count_116 hg, b_Cp_count_123 hg, b_Cp_count_130 hg, b_Cp_count_138, neq, ncl, exI, exJ, exV, eq_self, true_and, and_true, true_or, or_true, if_true, if_false, not_true, not_false_eq_true, false_and, and_false, decide_true, decide_false, bi_T, bi_F, bi_0, bi_1, bi_z, bft, n10, n01, Nat.reduceEqDiff, Nat.reduceLT, Nat.reduceAdd, Nat.reduceMul, reduceCtorEq]; exact hq
    · simp (disch := omega) only [b_Mo_count_111, b_Mo_count_212 hg, neq, ncl, u2_n, h87, exI, exJ, exV, eq_self, true_and, and_true, true_or, or_true, if_true, if_false, not_true, not_false_eq_true, false_and, and_false, decide_true, decide_false, bi_T, bi_F, bi_0, bi_1, bi_z, bft, n10, n01, Nat.reduceEqDiff, Nat.reduceLT, Nat.reduceAdd, Nat.reduceMul, reduceCtorEq]; exact hq
  · refine both_t h (I 88 3) (fun Q hq => ?_) (fun Q hq => ref Q (fun v6 v7 => ?_))
    · simp (disch := omega) only [e_Cp_count, b_Cp_count_0, b_Cp_count_64 hg, b_Cp_count_72 hg, b_Cp_count_83 hg, b_Cp_count_88, b_Cp_count_89 hg, b_Cp_count_96, b_Cp_count_97 hg, b_Cp_count_102 hg, b_Cp_count_109 hg, b_Cp_count_116 hg, b_Cp_count_123 hg, b_Cp_count_130 hg, b_Cp_count_138, neq, ncl, exI, exJ, exV, eq_self, true_and, and_true, true_or, or_true, if_true, if_false, not_true, not_false_eq_true, false_and, and_false, decide_true, decide_false, bi_T, bi_F, bi_0, bi_1, bi_z, bft, n10, n01, Nat.reduceEqDiff, Nat.reduceLT, Nat.reduceAdd, Nat.reduceMul, reduceCtorEq]; exact hq
    · simp (disch := omega) only [b_Mo_count_111, b_Mo_count_219 hg, neq, ncl, u2_n, h87, exI, exJ, exV, eq_self, true_and, and_true, true_or, or_true, if_true, if_false, not_true, not_false_eq_true, false_and, and_false, decide_true, decide_false, bi_T, bi_F, bi_0, bi_1, bi_z, bft, n10, n01, Nat.reduceEqDiff, Nat.reduceLT, Nat.reduceAdd, Nat.reduceMul, reduceCtorEq]; exact hq
  · refine both_t h (I 88 5) (fun Q hq => ?_) (fun Q hq => ref Q (fun v6 v7 => ?_))
    · simp (disch := omega) only [e_Cp_count, b_Cp_count_0, b_Cp_count_64 hg, b_Cp_count_72 hg, b_Cp_count_83 hg, b_Cp_count_88, b_Cp_count_89 hg, b_Cp_count_96, b_Cp_count_97 hg, b_Cp_count_102 hg, b_Cp_count_109 hg, b_Cp_count_116 hg, b_Cp_count_123 hg, b_Cp_count_130 hg, b_Cp_count_138, neq, ncl, exI, exJ, exV, eq_self, true_and, and_true, true_or, or_true, if_true, if_false, not_true, not_false_eq_true, false_and, and_false, decide_true, decide_false, bi_T, bi_F, bi_0, bi_1, bi_z, bft, n10, n01, Nat.reduceEqDiff, Nat.reduceLT, Nat.reduceAdd, Nat.reduceMul, reduceCtorEq]; exact hq
    · simp (disch := omega) only [b_Mo_count_111, b_Mo_count_226 hg, neq, ncl, u2_n, h87, exI, exJ, exV, eq_self, true_and, and_true, true_or, or_true, if_true, if_false, not_true, not_false_eq_true, false_and, and_false, decide_true, decide_false, bi_T, bi_F, bi_0, bi_1, bi_z, bft, n10, n01, Nat.reduceEqDiff, Nat.reduceLT, Nat.reduceAdd, Nat.reduceMul, reduceCtorEq]; exact hq
  · refine both_t h (I 88 6) (fun Q hq => ?_) (fun Q hq => ref Q (fun v6 v7 => ?_))
    · simp (disch := omega) only [e_Cp_count, b_Cp_count_0, b_Cp_count_64 hg, b_Cp_count_72 hg, b_Cp_count_83 hg, b_Cp_count_88, b_Cp_count_89 hg, b_Cp_count_96, b_Cp_count_97 hg, b_Cp_count_102 hg, b_Cp_count_109 hg, b_Cp_count_116 hg, b_Cp_count_123 hg, b_Cp_count_130 hg, b_Cp_count_138, neq, ncl, exI, exJ, exV, eq_self, true_and, and_true, true_or, or_true, if_true, if_false, not_true, not_false_eq_true, false_and, and_false, decide_true, decide_false, bi_T, bi_F, bi_0, bi_1, bi_z, bft, n10, n01, Nat.reduceEqDiff, Nat.reduceLT, Nat.reduceAdd, Nat.reduceMul, reduceCtorEq]; exact hq
    · simp (disch := omega) only [b_Mo_count_111, b_Mo_count_233 hg, neq, ncl, u2_n, h87, exI, exJ, exV, eq_self, true_and, and_true, true_or, or_true, if_true, if_false, not_true, not_false_eq_true, false_and, and_false, decide_true, decide_false, bi_T, bi_F, bi_0, bi_1, bi_z, bft, n10, n01, Nat.reduceEqDiff, Nat.reduceLT, Nat.reduceAdd, Nat.reduceMul, reduceCtorEq]; exact hq
end CNT
