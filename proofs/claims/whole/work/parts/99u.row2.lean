/-! ===== row, copy: both ===== -/
section RW2
variable {N : Nat} {X : Nat → Int32} {ow : Nat → Nat} {S : Nat → Nat → Nat} {LF : aLF} {g : aG} {I : Nat → Nat → Int32} {J : Nat → Nat → Int64} {Q : aQ} {d : Nat} {B : Nat → Nat} {t : Nat}
theorem w_mSheet (hg : Geo g) {v1 : Value} (ht : t ≤ 400) (h94 : ∀ i, i < t → I 94 i = nI (B i)) (hQ : ∀ v1 v5 v6, a_wp aTab aMX (d + 1) m_Mo_row 247 [.ref 89, v1, .int (nI t), .int (nI (tCells (sF B t))), .int (nI (4 * min 16 (t / 4))), v5, v6] [] (g, wr I 91 352 (sF B t) 16, J) Q) : a_wp aTab aMX (d + 1) m_Mo_row 56 [.ref 89, v1, .int (nI t), .int (nI 0), .int (nI 0), aU, aU] [] (g, I, J) Q := by
  rw [b_Mo_row_56]
  obtain ⟨F, eF⟩ : ∃ F : Nat → Int32, F = sF B t := ⟨_, rfl⟩
  obtain ⟨G, eG⟩ : ∃ G : Nat → Nat, G = fun r => pcI (sF B t r) := ⟨_, rfl⟩
  have hc : tCells (sF B t) = fb_sm G 16 := by rw [eG]; rfl
  rw [hc, ← eF] at hQ
  have hp : ∀ v1 v6, a_wp aTab aMX (d + 1) m_Mo_row 59 [.ref 89, v1, .int (nI t), .int (nI (fb_sm G 0)), .int (nI (4 * min 0 (t / 4))), .int (nI 0), v6] [] (g, wr I 91 352 F 0, J) Q := by
    refine dn (P := fun k => ∀ v1 v6, a_wp aTab aMX (d + 1) m_Mo_row 59 [.ref 89, v1, .int (nI t), .int (nI (fb_sm G k)), .int (nI (4 * min k (t / 4))), .int (nI k), v6] [] (g, wr I 91 352 F k, J) Q) (n := 16) ?_ ?_ 0 (by omega)
    · intro v1 v6
      rw [b_Mo_row_59]
      simp (disch := omega) only [↓reduceIte, nadd, nmul, nsub, nlt, neq, ncl, nvi, ndiv, nrem, exI, exJ, exV, eq_self, true_and, and_true, true_or, or_true, if_true, if_false, not_true, not_false_eq_true, false_and, and_false, decide_true, decide_false, bi_T, bi_F, bi_0, bi_1, bi_z, bft, n10, n01, Nat.reduceEqDiff, Nat.reduceLT, Nat.reduceAdd, Nat.reduceMul, reduceCtorEq, Nat.lt_irrefl]
      rw [b_Mo_row_170]
      exact hQ _ _ _
    · intro k hk ih v1 v6
      rw [fb_sm_succ, ← wr_s, show G k = pcI (sF B t k) by rw [eG], show F k = sF B t k by rw [eF]] at ih
      rw [b_Mo_row_59]
      by_cases q : 4 * k + 3 < t
      · have e94 : ∀ j, j < 4 → wr I 91 352 F k 94 (4 * k + j) = nI (B (4 * k + j)) := fun j hj => by rw [wr_n (by omega), h94 _ (by omega)]
        have e0 := e94 0 (by decide)
        rw [Nat.add_zero] at e0
        rw [show sF B t k = nI (B (4 * k)) <<< (nI 24 &&& 31) ||| nI (B (4 * k + 1)) <<< (nI 16 &&& 31) ||| nI (B (4 * k + 2)) <<< (nI 8 &&& 31) ||| nI (B (4 * k + 3)) from if_pos q, show 4 * min (k + 1) (t / 4) = 4 * k + 4 by omega] at ih
        simp (disch := omega) only [↓reduceIte, nadd, nmul, nsub, nlt, neq, ncl, nvi, ndiv, nrem, exI, exJ, exV, eq_self, true_and, and_true, true_or, or_true, if_true, if_false, not_true, not_false_eq_true, false_and, and_false, decide_true, decide_false, bi_T, bi_F, bi_0, bi_1, bi_z, bft, n10, n01, Nat.reduceEqDiff, Nat.reduceLT, Nat.reduceAdd, Nat.reduceMul, reduceCtorEq, hk, q, b_Mo_row_66, b_Mo_row_79 hg, b_Mo_row_143 hg, b_Mo_row_162, e94, e0, c_bits]
        exact ih _ _
      · rw [show sF B t k = nI 0 from if_neg q, show 4 * min (k + 1) (t / 4) = 4 * min k (t / 4) by omega] at ih
        simp (disch := omega) only [↓reduceIte, nadd, nmul, nsub, nlt, neq, ncl, nvi, ndiv, nrem, exI, exJ, exV, eq_self, true_and, and_true, true_or, or_true, if_true, if_false, not_true, not_false_eq_true, false_and, and_false, decide_true, decide_false, bi_T, bi_F, bi_0, bi_1, bi_z, bft, n10, n01, Nat.reduceEqDiff, Nat.reduceLT, Nat.reduceAdd, Nat.reduceMul, reduceCtorEq, hk, q, b_Mo_row_66, b_Mo_row_143 hg, b_Mo_row_162, c_bits]
        exact ih _ _
  have h0 := hp aU aU
  rw [wr_0, show 4 * min 0 (t / 4) = 0 by omega] at h0
  exact h0
theorem w_mOut (hg : Geo g) {n : Nat} {v4 : Value} (hn : n < 6) (ht : t ≤ 400) (h94 : ∀ i, i < t → I 94 i = nI (B i)) (hQ : ∀ v1 v5 v6, a_wp aTab aMX (d + 1) m_Mo_row 247 [.ref 89, v1, .int (nI t), .int (nI (fb_sm (fun j => pcI (nI (oN B t j))) 8)), .int (nI (min t 8)), v5, v6] [] (g, wr I 91 (16 + 8 * n) (fun j => nI (oN B t j)) 8, J) Q) : a_wp aTab aMX (d + 1) m_Mo_row 173 [.ref 89, .int (nI n), .int (nI t), .int (nI 0), v4, aU, aU] [] (g, I, J) Q := by
  rw [b_Mo_row_173]
  obtain ⟨F, eF⟩ : ∃ F : Nat → Int32, F = fun j => nI (oN B t j) := ⟨_, rfl⟩
  obtain ⟨G, eG⟩ : ∃ G : Nat → Nat, G = fun j => pcI (nI (oN B t j)) := ⟨_, rfl⟩
  rw [← eF, ← eG] at hQ
  have hp : ∀ v4 v6, a_wp aTab aMX (d + 1) m_Mo_row 176 [.ref 89, .int (nI n), .int (nI t), .int (nI (fb_sm G 0)), v4, .int (nI 0), v6] [] (g, wr I 91 (16 + 8 * n) F 0, J) Q := by
    refine dn (P := fun k => ∀ v4 v6, a_wp aTab aMX (d + 1) m_Mo_row 176 [.ref 89, .int (nI n), .int (nI t), .int (nI (fb_sm G k)), v4, .int (nI k), v6] [] (g, wr I 91 (16 + 8 * n) F k, J) Q) (n := 8) ?_ ?_ 0 (by omega)
    · intro v4 v6
      rw [b_Mo_row_176]
      simp (disch := omega) only [↓reduceIte, nadd, nmul, nsub, nlt, neq, ncl, nvi, ndiv, nrem, exI, exJ, exV, eq_self, true_and, and_true, true_or, or_true, if_true, if_false, not_true, not_false_eq_true, false_and, and_false, decide_true, decide_false, bi_T, bi_F, bi_0, bi_1, bi_z, bft, n10, n01, Nat.reduceEqDiff, Nat.reduceLT, Nat.reduceAdd, Nat.reduceMul, reduceCtorEq, Nat.lt_irrefl]
      rw [b_Mo_row_233]
      by_cases q : t < 8
      · have := hQ aU aU aU
        rw [show min t 8 = t by omega] at this
        simp (disch := omega) only [↓reduceIte, nadd, nmul, nsub, nlt, neq, ncl, nvi, ndiv, nrem, exI, exJ, exV, eq_self, true_and, and_true, true_or, or_true, if_true, if_false, not_true, not_false_eq_true, false_and, and_false, decide_true, decide_false, bi_T, bi_F, bi_0, bi_1, bi_z, bft, n10, n01, Nat.reduceEqDiff, Nat.reduceLT, Nat.reduceAdd, Nat.reduceMul, reduceCtorEq, q, b_Mo_row_239, b_Mo_row_245]
        exact this
      · have := hQ aU aU aU
        rw [show min t 8 = 8 by omega] at this
        simp (disch := omega) only [↓reduceIte, nadd, nmul, nsub, nlt, neq, ncl, nvi, ndiv, nrem, exI, exJ, exV, eq_self, true_and, and_true, true_or, or_true, if_true, if_false, not_true, not_false_eq_true, false_and, and_false, decide_true, decide_false, bi_T, bi_F, bi_0, bi_1, bi_z, bft, n10, n01, Nat.reduceEqDiff, Nat.reduceLT, Nat.reduceAdd, Nat.reduceMul, reduceCtorEq, q, b_Mo_row_243, b_Mo_row_245]
        exact this
    · intro k hk ih v4 v6
      rw [fb_sm_succ, ← wr_s, show G k = pcI (nI (oN B t k)) by rw [eG], show F k = nI (oN B t k) by rw [eF]] at ih
      rw [b_Mo_row_176]
      by_cases q : k < t
      · have e94 : wr I 91 (16 + 8 * n) F k 94 k = nI (oN B t k) := by rw [wr_n (by omega), h94 k q]; unfold oN; rw [if_pos q]
        simp (disch := omega) only [↓reduceIte, nadd, nmul, nsub, nlt, neq, ncl, nvi, ndiv, nrem, exI, exJ, exV, eq_self, true_and, and_true, true_or, or_true, if_true, if_false, not_true, not_false_eq_true, false_and, and_false, decide_true, decide_false, bi_T, bi_F, bi_0, bi_1, bi_z, bft, n10, n01, Nat.reduceEqDiff, Nat.reduceLT, Nat.reduceAdd, Nat.reduceMul, reduceCtorEq, hk, q, b_Mo_row_183, b_Mo_row_189 hg, b_Mo_row_200 hg, b_Mo_row_225, e94, c_bits]
        exact ih _ _
      · have e0 : oN B t k = 0 := if_neg q
        rw [e0] at ih
        simp (disch := omega) only [↓reduceIte, nadd, nmul, nsub, nlt, neq, ncl, nvi, ndiv, nrem, exI, exJ, exV, eq_self, true_and, and_true, true_or, or_true, if_true, if_false, not_true, not_false_eq_true, false_and, and_false, decide_true, decide_false, bi_T, bi_F, bi_0, bi_1, bi_z, bft, n10, n01, Nat.reduceEqDiff, Nat.reduceLT, Nat.reduceAdd, Nat.reduceMul, reduceCtorEq, hk, q, b_Mo_row_183, b_Mo_row_199, b_Mo_row_200 hg, b_Mo_row_225, c_bits]
        exact ih _ _
  have h0 := hp aU aU
  rw [wr_0] at h0
  exact h0
theorem m_row {x : Int32} (h : INV N X ow S LF g I J) : BOTH N X (d + 4) m_Cp_row m_Mo_row [.int x] (g, I, J) := by
  have hg := h.1.1
  have hS := h.2.2.1.1
  have hB := hS.2
  have h7 := sb7 hB 0
  have hM := h.2.2.1.2.1
  obtain ⟨B, t, t1, t2, t3, t4, t5⟩ := h.2.2.2.2.1
  by_cases qa : x ≠ -1 ∧ hasS S x = false
  · obtain ⟨qx, hf⟩ := qa
    refine both_r h (-2) 2 (by decide) (by decide) (fun Q hq => ?_) (fun Q hq => ?_)
    · simp (disch := omega) only [e_Cp_row, b_Cp_row_0, b_Cp_row_5 hg, b_Cp_row_13, b_Cp_row_16 hg, b_Cp_row_22, qx, c_has hg, hasS_I hS, hf, c_refuse hg (v := (-2 : Int32)) (r := 2) (by decide) (by decide) (by decide), exI, exJ, exV, eq_self, true_and, and_true, true_or, or_true, if_true, if_false, not_true, not_false_eq_true, false_and, and_false, decide_true, decide_false, bi_T, bi_F, bi_0, bi_1, bi_z, bft, n10, n01, Nat.reduceEqDiff, Nat.reduceLT, Nat.reduceAdd, Nat.reduceMul, reduceCtorEq]; exact hq
    · simp (disch := omega) only [e_Mo_row, b_Mo_row_0 hg, b_Mo_row_10 hg, b_Mo_row_15, b_Mo_row_18 hg, b_Mo_row_24, qx, c_isFigure hg hB (hMr h), hf, tl_rf (v := (-2 : Int32)) (r := 2) h (by decide) (by decide) (by decide), exI, exJ, exV, eq_self, true_and, and_true, true_or, or_true, if_true, if_false, not_true, not_false_eq_true, false_and, and_false, decide_true, decide_false, bi_T, bi_F, bi_0, bi_1, bi_z, bft, n10, n01, Nat.reduceEqDiff, Nat.reduceLT, Nat.reduceAdd, Nat.reduceMul, reduceCtorEq]; exact hq
  have hx : x ≠ -1 → hasS S x = true := fun z => by
    cases e : hasS S x with
    | true => rfl
    | false => exact absurd ⟨z, e⟩ qa
  have stC : ∀ Q : aQ, a_wp aTab aMX (d + 3) m_Cp_row 23 [.ref 6, .int x, aU] [] (g, I, J) Q → a_call aTab aMX (d + 4) m_Cp_row [.ref 6, .int x] (g, I, J) Q := fun Q hq => by
    by_cases qx : x = -1
    · rw [e_Cp_row, b_Cp_row_0, if_pos qx]; exact hq
    · simp (disch := omega) only [e_Cp_row, b_Cp_row_0, b_Cp_row_5 hg, b_Cp_row_13, qx, c_has hg, hasS_I hS, hx qx, exI, exJ, exV, eq_self, true_and, and_true, true_or, or_true, if_true, if_false, not_true, not_false_eq_true, false_and, and_false, decide_true, decide_false, bi_T, bi_F, bi_0, bi_1, bi_z, bft, n10, n01, Nat.reduceEqDiff, Nat.reduceLT, Nat.reduceAdd, Nat.reduceMul, reduceCtorEq]; exact hq
  have stM : ∀ (I' : Nat → Nat → Int32) (T : Nat → Int32), MS S T (u2 I' 89 0 (nI 0) 91) → ∀ Q : aQ, a_wp aTab aMX (d + 3) m_Mo_row 25 [.ref 89, .int x, aU, aU, aU, aU, aU] [] (g, u2 I' 89 0 (nI 0), J) Q → a_call aTab aMX (d + 4) m_Mo_row [.ref 89, .int x] (g, I', J) Q := fun I' T hM' Q hq => by
    by_cases qx : x = -1
    · rw [e_Mo_row, b_Mo_row_0 hg, if_pos qx]; exact hq
    · simp (disch := omega) only [e_Mo_row, b_Mo_row_0 hg, b_Mo_row_10 hg, b_Mo_row_15, qx, c_isFigure hg hB hM', hx qx, exI, exJ, exV, eq_self, true_and, and_true, true_or, or_true, if_true, if_false, not_true, not_false_eq_true, false_and, and_false, decide_true, decide_false, bi_T, bi_F, bi_0, bi_1, bi_z, bft, n10, n01, Nat.reduceEqDiff, Nat.reduceLT, Nat.reduceAdd, Nat.reduceMul, reduceCtorEq]; exact hq
  by_cases q0 : t = 0
  · refine both_r h (-6) 6 (by decide) (by decide) (fun Q hq => stC Q ?_) (fun Q hq => stM _ _ (hMr h) Q ?_)
    · rw [b_Cp_row_23 hg, t3, q0, if_pos rfl, b_Cp_row_30 hg, c_refuse hg (v := (-6 : Int32)) (r := 6) (by decide) (by decide) (by decide)]
      simp only [exI]
      rw [b_Cp_row_36]
      exact hq
    · have e8v : u2 (rfC I (-6) 6) 89 0 (nI 0) 89 8 = nI 0 := by rw [u2_k (by decide), rfC_o (by decide) (by decide), t4, q0]
      rw [b_Mo_row_25 hg, e8v, if_pos rfl, u2_self e8v, b_Mo_row_39 hg, tl_rf (v := (-6 : Int32)) (r := 6) h (by decide) (by decide) (by decide)]
      simp only [exI]
      rw [b_Mo_row_45]
      exact hq
  have q0' : ¬ nI t = nI 0 := by rw [neq (by omega) (by omega)]; exact q0
  by_cases qx : x = -1
  · unfold BOTH
    refine stC _ ?_
    rw [b_Cp_row_23 hg, t3, if_neg q0', b_Cp_row_37, if_pos qx, b_Cp_row_42 hg, c_takeSheet hg t3 t2 (fun i hi => (t5 i hi).1)]
    simp only [exI]
    rw [b_Cp_row_46, b_Cp_row_54 hg]
    refine c_chCast hg (fun I2 f1 f2 f3 f4 => ?_)
    simp only [exV, true_and]
    rw [b_Cp_row_64 hg, c_accept hg]
    simp only [exI]
    rw [b_Cp_row_69]
    refine ⟨_, rfl, ?_, h.1.2.2.1, ?_⟩
    · rw [← h.2.1]; funext j; simp (disch := omega) only [u2_n, f1, wr_n]
    have e91 : u2 (u2 I2 6 14 (nI 0)) 89 0 (nI 0) 91 = I 91 := funext (fun j => by simp (disch := omega) only [u2_n, f1, wr_n])
    refine stM _ (I 14) (by rw [e91]; exact hM) _ ?_
    have e8v : u2 (u2 I2 6 14 (nI 0)) 89 0 (nI 0) 89 8 = nI t := by simp (disch := omega) only [u2_n, f1, wr_n]; exact t4
    rw [b_Mo_row_25 hg, e8v, if_neg q0', b_Mo_row_46, if_pos qx]
    refine w_mSheet (B := B) hg t2 (fun i hi => ?_) (fun v1 v5 v6 => ?_)
    · simp (disch := omega) only [u2_n, f1, wr_n]; exact (t5 i hi).2
    have hc : tCells (sF B t) ≤ 512 := tC_le (sF B t) 16
    rw [b_Mo_row_247 hg, nsub (by omega), c_tellN hg (by rw [nlt (by omega) (by omega)]; omega)]
    simp only [exI]
    rw [b_Mo_row_260]
    refine ⟨_, rfl, rfl, INVx_i (INV_cs (S' := S) h (fun _ _ => rfl) (fun a j y1 y2 y3 y4 y5 y6 y7 => ?_) ⟨fun a j y1 y2 => ?_, hB⟩ (MS_T hM (fun i hi => ?_) (fun r hr => ?_)) (fun i hi => ?_) ⟨B, 0, t1, by omega, ?_, ?_, fun i hi => absurd hi (by omega)⟩ ?_ ?_ ?_ u2_s ?_ ?_ (fun f hf => ?_))⟩
    · simp (disch := omega) only [u2_n, f1, wr_n]
    · simp (disch := omega) only [u2_n, f1, wr_n]; exact hS.1 a j y1 y2
    · simp (disch := omega) only [u2_n, f1, wr_n]
    · simp (disch := omega) only [u2_n, f1, wr_i, wr_n, wr_i0]
    · simp (disch := omega) only [u2_n, f1, wr_n]
    · simp (disch := omega) only [u2_n, f1, wr_n, u2_s]
    · simp (disch := omega) only [u2_n, wr_n, u2_s]
    · simp (disch := omega) only [u2_n, f1, wr_n, u2_s]
    · simp (disch := omega) only [u2_n, wr_n, u2_s]
    · simp (disch := omega) only [u2_n, wr_n, u2_s]
    · simp (disch := omega) only [u2_n, wr_n]; exact f2
    · simp (disch := omega) only [u2_n, wr_n]; exact f3
    · simp (disch := omega) only [u2_n, wr_n]; exact f4 f hf
  · obtain ⟨n, hn, rfl⟩ := hasS_of hB (hx qx)
    have hF : ∀ j, oN B t j ≤ 255 := fun j => by
      unfold oN
      split
      · exact t1 j
      · omega
    unfold BOTH
    refine stC _ ?_
    rw [b_Cp_row_23 hg, t3, if_neg q0', b_Cp_row_37, if_neg qx, b_Cp_row_49 hg, c_takeOutline hg (by omega) t3 t2 (fun i hi => (t5 i hi).1)]
    simp only [exI]
    rw [b_Cp_row_54 hg]
    refine c_chCast hg (fun I2 f1 f2 f3 f4 => ?_)
    simp only [exV, true_and]
    rw [b_Cp_row_64 hg, c_accept hg]
    simp only [exI]
    rw [b_Cp_row_69]
    refine ⟨_, rfl, ?_, h.1.2.2.1, ?_⟩
    · rw [← h.2.1]; funext j; simp (disch := omega) only [u2_n, f1, wr_n]
    have e91 : u2 (u2 I2 6 14 (nI 0)) 89 0 (nI 0) 91 = I 91 := funext (fun j => by simp (disch := omega) only [u2_n, f1, wr_n])
    refine stM _ (I 14) (by rw [e91]; exact hM) _ ?_
    have e8v : u2 (u2 I2 6 14 (nI 0)) 89 0 (nI 0) 89 8 = nI t := by simp (disch := omega) only [u2_n, f1, wr_n]; exact t4
    rw [b_Mo_row_25 hg, e8v, if_neg q0', b_Mo_row_46, if_neg qx]
    refine w_mOut (B := B) hg (by omega) t2 (fun i hi => ?_) (fun v1 v5 v6 => ?_)
    · simp (disch := omega) only [u2_n, f1, wr_n]; exact (t5 i hi).2
    have hc : fb_sm (fun j => pcI (nI (oN B t j))) 8 ≤ 8 * 32 := fb_sm_bound (fun j _ => pcI_le _)
    rw [b_Mo_row_247 hg, nsub (by omega), c_tellN hg (by rw [nlt (by omega) (by omega)]; omega)]
    simp only [exI]
    rw [b_Mo_row_260]
    refine ⟨_, rfl, rfl, INVx_i (INV_cs (S' := wr S 8 (n * 8) (oN B t) 8) h (fun a ha => wr_r ha) (fun a j y1 y2 y3 y4 y5 y6 y7 => ?_) ⟨fun a j y1 y2 => ?_, SB_8 hB hF⟩ (MS_8 (n := n) (F := oN B t) (W := I 91) ?_ (by omega) (fun i hi => ?_) (fun j hj => ?_)) (fun i hi => ?_) ⟨B, 0, t1, by omega, ?_, ?_, fun i hi => absurd hi (by omega)⟩ ?_ ?_ ?_ u2_s ?_ ?_ (fun f hf => ?_))⟩
    · simp (disch := omega) only [u2_n, f1, wr_n]
    · rw [← CS_wr (r := 8) (o := n * 8) (k := 8) (F := oN B t) hS.1 a j y1 y2]
      simp (disch := omega) only [u2_n, f1, wr_n (r := 91)]
    · have e14 : ∀ K : Nat → Nat → Int32, (∀ j, K 14 j = I 14 j) → MS S (K 14) (I 91) := fun K hK => by
        rw [show K 14 = I 14 from funext hK]; exact hM
      exact e14 _ (fun j => by simp (disch := omega) only [u2_n, f1, wr_n])
    · simp (disch := omega) only [u2_n, f1, wr_n]
    · simp (disch := omega) only [u2_n, wr_i]
    · simp (disch := omega) only [u2_n, f1, wr_n]
    · simp (disch := omega) only [u2_n, f1, wr_n, u2_s]
    · simp (disch := omega) only [u2_n, wr_n, u2_s]
    · simp (disch := omega) only [u2_n, f1, wr_n, u2_s]
      rw [show t - min t 8 = t - 8 by omega]
    · simp (disch := omega) only [u2_n, wr_n, u2_s]
    · simp (disch := omega) only [u2_n, wr_n, u2_s]
    · simp (disch := omega) only [u2_n, wr_n]; exact f2
    · simp (disch := omega) only [u2_n, wr_n]; exact f3
    · simp (disch := omega) only [u2_n, wr_n]; exact f4 f hf
theorem m_copy {x : Int32} (h : INV N X ow S LF g I J) : BOTH N X (d + 5) m_Cp_copy m_Mo_copy [.int x] (g, I, J) := by
  have hg := h.1.1
  have hS := h.2.2.1.1
  have hB := hS.2
  have hM := h.2.2.1.2.1
  obtain ⟨B, t, t1, t2, t3, t4, t5⟩ := h.2.2.2.2.1
  cases hb : beI x with
  | false =>
    refine both_r h (-1) 1 (by decide) (by decide) (fun Q hq => ?_) (fun Q hq => ?_)
    · simp (disch := omega) only [e_Cp_copy, b_Cp_copy_0, b_Cp_copy_4, b_Cp_copy_7 hg, b_Cp_copy_12, c_isBeat, hb, c_refuse hg (v := (-1 : Int32)) (r := 1) (by decide) (by decide) (by decide), exI, exJ, exV, eq_self, true_and, and_true, true_or, or_true, if_true, if_false, not_true, not_false_eq_true, false_and, and_false, decide_true, decide_false, bi_T, bi_F, bi_0, bi_1, bi_z, bft, n10, n01, Nat.reduceEqDiff, Nat.reduceLT, Nat.reduceAdd, Nat.reduceMul, reduceCtorEq]; exact hq
    · simp (disch := omega) only [e_Mo_copy, b_Mo_copy_0 hg, b_Mo_copy_9, b_Mo_copy_12 hg, b_Mo_copy_17, c_mIsBeat, hb, tl_rf (v := (-1 : Int32)) (r := 1) h (by decide) (by decide) (by decide), exI, exJ, exV, eq_self, true_and, and_true, true_or, or_true, if_true, if_false, not_true, not_false_eq_true, false_and, and_false, decide_true, decide_false, bi_T, bi_F, bi_0, bi_1, bi_z, bft, n10, n01, Nat.reduceEqDiff, Nat.reduceLT, Nat.reduceAdd, Nat.reduceMul, reduceCtorEq]; exact hq
  | true =>
  obtain ⟨b, hb12, rfl⟩ := beI_of hb
  obtain ⟨F, eF⟩ : ∃ F : Nat → Int32, F = fun r => nI (allR S b r 6) := ⟨_, rfl⟩
  unfold BOTH
  simp (disch := omega) only [e_Cp_copy, b_Cp_copy_0, b_Cp_copy_4, b_Cp_copy_13, c_isBeat, hb, exI, exJ, exV, eq_self, true_and, and_true, true_or, or_true, if_true, if_false, not_true, not_false_eq_true, false_and, and_false, decide_true, decide_false, bi_T, bi_F, bi_0, bi_1, bi_z, bft, n10, n01, Nat.reduceEqDiff, Nat.reduceLT, Nat.reduceAdd, Nat.reduceMul, reduceCtorEq]
  have hp : ∀ Q : aQ, a_wp aTab aMX (d + 4) m_Cp_copy 45 [.ref 6, .int (nI b), .int (nI 16)] [] (g, wr I 14 0 F 16, J) Q → a_wp aTab aMX (d + 4) m_Cp_copy 15 [.ref 6, .int (nI b), .int (nI 0)] [] (g, wr I 14 0 F 0, J) Q := by
    intro Q hQ
    refine dn (P := fun k => a_wp aTab aMX (d + 4) m_Cp_copy 15 [.ref 6, .int (nI b), .int (nI k)] [] (g, wr I 14 0 F k, J) Q) (n := 16) ?_ ?_ 0 (by omega)
    · rw [b_Cp_copy_15]
      simp (disch := omega) only [↓reduceIte, nadd, nmul, nsub, nlt, neq, ncl, nvi, ndiv, nrem, exI, exJ, exV, eq_self, true_and, and_true, true_or, or_true, if_true, if_false, not_true, not_false_eq_true, false_and, and_false, decide_true, decide_false, bi_T, bi_F, bi_0, bi_1, bi_z, bft, n10, n01, Nat.reduceEqDiff, Nat.reduceLT, Nat.reduceAdd, Nat.reduceMul, reduceCtorEq, Nat.lt_irrefl]
      exact hQ
    · intro k hk ih
      have hSk : CS S (wr I 14 0 F k) := ⟨fun a j y1 y2 => by rw [wr_n (by omega)]; exact hS.1 a j y1 y2, hB⟩
      rw [← wr_s0, show F k = nI (allR S b k 6) by rw [eF]] at ih
      rw [b_Cp_copy_15]
      simp (disch := omega) only [↓reduceIte, nadd, nmul, nsub, nlt, neq, ncl, nvi, ndiv, nrem, exI, exJ, exV, eq_self, true_and, and_true, true_or, or_true, if_true, if_false, not_true, not_false_eq_true, false_and, and_false, decide_true, decide_false, bi_T, bi_F, bi_0, bi_1, bi_z, bft, n10, n01, Nat.reduceEqDiff, Nat.reduceLT, Nat.reduceAdd, Nat.reduceMul, reduceCtorEq, hk, b_Cp_copy_21 hg, b_Cp_copy_38 hg, c_rowOfAll hg hSk]
      exact ih
  rw [wr_0] at hp
  refine hp _ ?_
  rw [b_Cp_copy_45 hg]
  refine c_chCast hg (fun I2 f1 f2 f3 f4 => ?_)
  simp only [exV, true_and]
  have et : tCells (I2 14) = tCells F := fb_sm_cong (fun r hr => by rw [f1 14 r (by omega) (by omega), wr_i0 hr])
  rw [b_Cp_copy_49 hg, c_toldCells hg, et]
  simp only [exI]
  rw [b_Cp_copy_57 hg, c_accept hg]
  simp only [exI]
  rw [b_Cp_copy_60]
  refine ⟨_, rfl, ?_, h.1.2.2.1, ?_⟩
  · rw [← h.2.1]; funext j; simp (disch := omega) only [u2_n, f1, wr_n]
  rw [e_Mo_copy, b_Mo_copy_0 hg]
  obtain ⟨H, eH⟩ : ∃ H, H = u2 (u2 I2 6 14 (nI 0)) 89 0 (nI 0) := ⟨_, rfl⟩
  rw [← eH]
  have e91 : H 91 = I 91 := by rw [eH]; exact funext (fun j => by simp (disch := omega) only [u2_n, f1, wr_n])
  simp (disch := omega) only [b_Mo_copy_9, b_Mo_copy_18, c_mIsBeat, hb, exI, exJ, exV, eq_self, true_and, and_true, true_or, or_true, if_true, if_false, not_true, not_false_eq_true, false_and, and_false, decide_true, decide_false, bi_T, bi_F, bi_0, bi_1, bi_z, bft, n10, n01, Nat.reduceEqDiff, Nat.reduceLT, Nat.reduceAdd, Nat.reduceMul, reduceCtorEq]
  obtain ⟨G, eG⟩ : ∃ G : Nat → Nat, G = fun r => pcI (F r) := ⟨_, rfl⟩
  have hp2 : ∀ Q : aQ, a_wp aTab aMX (d + 4) m_Mo_copy 66 [.ref 89, .int (nI b), .int (nI (fb_sm G 16)), .int (nI 16)] [] (g, wr H 91 352 F 16, J) Q → a_wp aTab aMX (d + 4) m_Mo_copy 22 [.ref 89, .int (nI b), .int (nI (fb_sm G 0)), .int (nI 0)] [] (g, wr H 91 352 F 0, J) Q := by
    intro Q hQ
    refine dn (P := fun k => a_wp aTab aMX (d + 4) m_Mo_copy 22 [.ref 89, .int (nI b), .int (nI (fb_sm G k)), .int (nI k)] [] (g, wr H 91 352 F k, J) Q) (n := 16) ?_ ?_ 0 (by omega)
    · rw [b_Mo_copy_22]
      simp (disch := omega) only [↓reduceIte, nadd, nmul, nsub, nlt, neq, ncl, nvi, ndiv, nrem, exI, exJ, exV, eq_self, true_and, and_true, true_or, or_true, if_true, if_false, not_true, not_false_eq_true, false_and, and_false, decide_true, decide_false, bi_T, bi_F, bi_0, bi_1, bi_z, bft, n10, n01, Nat.reduceEqDiff, Nat.reduceLT, Nat.reduceAdd, Nat.reduceMul, reduceCtorEq, Nat.lt_irrefl]
      exact hQ
    · intro k hk ih
      have hMk : MS S (fun r => wr H 91 352 F k 91 (352 + r)) (wr H 91 352 F k 91) := MS_T hM (fun i hi => by rw [wr_n (by omega), e91]) (fun r hr => rfl)
      rw [fb_sm_succ, ← wr_s, show G k = pcI (F k) by rw [eG], show F k = nI (allR S b k 6) by rw [eF]] at ih
      rw [b_Mo_copy_22]
      simp (disch := omega) only [↓reduceIte, nadd, nmul, nsub, nlt, neq, ncl, nvi, ndiv, nrem, exI, exJ, exV, eq_self, true_and, and_true, true_or, or_true, if_true, if_false, not_true, not_false_eq_true, false_and, and_false, decide_true, decide_false, bi_T, bi_F, bi_0, bi_1, bi_z, bft, n10, n01, Nat.reduceEqDiff, Nat.reduceLT, Nat.reduceAdd, Nat.reduceMul, reduceCtorEq, hk, b_Mo_copy_28 hg, b_Mo_copy_43 hg, b_Mo_copy_58, c_allRow hg hB hMk, u2_s, c_bits]
      exact ih
  rw [wr_0] at hp2
  refine hp2 _ ?_
  have hc : fb_sm G 16 ≤ 16 * 32 := by rw [eG]; exact fb_sm_bound (fun j _ => pcI_le _)
  rw [b_Mo_copy_66 hg, c_tellN hg (by rw [nlt (by omega) (by omega)]; omega)]
  simp only [exI]
  rw [b_Mo_copy_71]
  have eg : tCells F = fb_sm G 16 := by rw [eG]; rfl
  rw [eg]
  subst eH
  refine ⟨_, rfl, rfl, INVx_i (INV_cs (S' := S) h (fun _ _ => rfl) (fun a j y1 y2 y3 y4 y5 y6 y7 => ?_) ⟨fun a j y1 y2 => ?_, hB⟩ (MS_T hM (fun i hi => ?_) (fun r hr => ?_)) (fun i hi => ?_) ⟨B, t, t1, t2, ?_, ?_, fun i hi => ⟨?_, ?_⟩⟩ ?_ ?_ ?_ u2_s ?_ ?_ (fun f hf => ?_))⟩
  · simp (disch := omega) only [u2_n, f1, wr_n]
  · simp (disch := omega) only [u2_n, f1, wr_n]; exact hS.1 a j y1 y2
  · simp (disch := omega) only [u2_n, f1, wr_n]
  · simp (disch := omega) only [u2_n, f1, wr_i, wr_n, wr_i0]
  · simp (disch := omega) only [u2_n, f1, wr_n]
  · simp (disch := omega) only [u2_n, f1, wr_n]; exact t3
  · simp (disch := omega) only [u2_n, f1, wr_n]; exact t4
  · simp (disch := omega) only [u2_n, f1, wr_n]; exact (t5 i hi).1
  · simp (disch := omega) only [u2_n, f1, wr_n]; exact (t5 i hi).2
  · simp (disch := omega) only [u2_n, f1, wr_n]; exact h.2.2.2.2.2.1.1
  · simp (disch := omega) only [u2_n, wr_n, u2_s]
  · simp (disch := omega) only [u2_n, wr_n, u2_s]
  · simp (disch := omega) only [u2_n, wr_n]; exact f2
  · simp (disch := omega) only [u2_n, wr_n]; exact f3
  · simp (disch := omega) only [u2_n, wr_n]; exact f4 f hf
end RW2
