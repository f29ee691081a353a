/-! ===== show: both ===== -/
section SH2
variable {N : Nat} {X : Nat → Int32} {ow : Nat → Nat} {S : Nat → Nat → Nat} {LF : aLF} {g : aG} {I : Nat → Nat → Int32} {J : Nat → Nat → Int64} {Q : aQ} {d : Nat}
theorem m_show {x : Int32} (h : INV N X ow S LF g I J) : BOTH N X (d + 12) m_Cp_show m_Mo_show [.int x] (g, I, J) := by
  have hg := h.1.1
  by_cases qx : ¬ x < nI 0 ∧ ¬ nI 1000000 < x
  rotate_left
  · refine both_r h (-1) 1 (by decide) (by decide) (fun Q hq => ?_) (fun Q hq => ?_)
    · by_cases q1 : x < nI 0
      · simp (disch := omega) only [e_Cp_show, b_Cp_show_0, b_Cp_show_11 hg, b_Cp_show_16, q1, c_refuse hg (v := (-1 : Int32)) (r := 1) (by decide) (by decide) (by decide), exI, exJ, exV, eq_self, true_and, and_true, true_or, or_true, if_true, if_false, not_true, not_false_eq_true, false_and, and_false, decide_true, decide_false, bi_T, bi_F, bi_0, bi_1, bi_z, bft, n10, n01, Nat.reduceEqDiff, Nat.reduceLT, Nat.reduceAdd, Nat.reduceMul, reduceCtorEq]; exact hq
      · have q2 : nI 1000000 < x := by
          by_cases z : nI 1000000 < x
          · exact z
          · exact absurd ⟨q1, z⟩ qx
        simp (disch := omega) only [e_Cp_show, b_Cp_show_0, b_Cp_show_4, b_Cp_show_11 hg, b_Cp_show_16, q1, q2, c_refuse hg (v := (-1 : Int32)) (r := 1) (by decide) (by decide) (by decide), exI, exJ, exV, eq_self, true_and, and_true, true_or, or_true, if_true, if_false, not_true, not_false_eq_true, false_and, and_false, decide_true, decide_false, bi_T, bi_F, bi_0, bi_1, bi_z, bft, n10, n01, Nat.reduceEqDiff, Nat.reduceLT, Nat.reduceAdd, Nat.reduceMul, reduceCtorEq]; exact hq
    · simp (disch := omega) only [e_Mo_show, b_Mo_show_0 hg, b_Mo_show_14, b_Mo_show_17 hg, b_Mo_show_22, c_inI, decide_eq_false qx, tl_rf (v := (-1 : Int32)) (r := 1) h (by decide) (by decide) (by decide), exI, exJ, exV, eq_self, true_and, and_true, true_or, or_true, if_true, if_false, not_true, not_false_eq_true, false_and, and_false, decide_true, decide_false, bi_T, bi_F, bi_0, bi_1, bi_z, bft, n10, n01, Nat.reduceEqDiff, Nat.reduceLT, Nat.reduceAdd, Nat.reduceMul, reduceCtorEq]; exact hq
  have qy := qx
  obtain ⟨s, rfl, hs⟩ : ∃ s, x = nI s ∧ s ≤ 1000000 := by
    rcases nIx x 1000001 (by decide) with w | ⟨w1, w2⟩ | ⟨m, w1, w2⟩
    · exact absurd w qx.1
    · exfalso
      have q2 := qx.2
      rw [fa_lt, nI_toInt (by decide)] at q2 w2
      omega
    · exact ⟨m, w2, by omega⟩
  unfold BOTH
  rw [e_Cp_show, b_Cp_show_0, if_neg qx.1, b_Cp_show_4, if_neg qx.2, b_Cp_show_17 hg]
  refine c_flO h (fun ow2 g2 I2 J2 i2 f1 f2 => ?_)
  simp only [exI]
  have hg2 := i2.1.1
  have hS2 := i2.2.2.1.1
  have hB := hS2.2
  have hM2 := i2.2.2.1.2.1
  have hL2 := i2.2.2.1.2.2
  have c4 := i2.2.2.2.2.2.2.1.2.2.2.1
  obtain ⟨z1, z2, z3, z4, z5, z6⟩ := i2.2.2.2.2.2.1
  -- the reference, up to what its plan tells
  have ref : ∀ (I3 : Nat → Nat → Int32) (J3 : Nat → Nat → Int64) (Q : aQ), I3 91 = I2 91 → (∀ j, j = 36 ∨ j = 44 ∨ j = 45 → I3 89 j = I2 89 j) → I3 112 = I2 112 → (∀ I4 J4, Xe (u2 I3 89 0 (nI 0)) I4 → Xj J3 J4 → I4 89 36 = nI 1 → LR S LF I4 → a_wp aTab aMX (d + 11) m_Mo_show 27 [.ref 89, .int (nI s), aU, aU, aU, aU, aU, aU] [] (g2, I4, J4) Q) → a_call aTab aMX (d + 12) m_Mo_show [.ref 89, .int (nI s)] (g2, I3, J3) Q := by
    intro I3 J3 Q e91 e89 e112 hq
    rw [e_Mo_show, b_Mo_show_0 hg2, c_inI (by decide) (by decide), decide_eq_true qy]
    simp only [exI]
    rw [b_Mo_show_14, if_neg (by decide), b_Mo_show_23 hg2]
    have e91' : u2 I3 89 0 (nI 0) 91 = I2 91 := by rw [u2_r (by decide)]; exact e91
    refine c_mFindLeast (d := d + 2) hg2 hB (T := I2 14) (by rw [e91']; exact hM2) (sc := I2) (by rw [e91']; exact hL2) (RC_c (fun j hj => by rw [u2_k (by omega)]; exact e89 j hj) (by rw [u2_r (by decide)]; exact e112) c4) (fun I4 J4 a1 a2 a3 a4 => ⟨rfl, hq I4 J4 a1 a2 a3 a4⟩)
  by_cases hl : lcS S LF < 1000000
  rotate_left
  · rw [decide_eq_false hl, b_Cp_show_24, if_pos bi_F, b_Cp_show_27 hg2, c_refuse hg2 (v := (-3 : Int32)) (r := 3) (by decide) (by decide) (by decide)]
    simp only [exI]
    rw [b_Cp_show_33]
    refine ⟨_, rfl, (rfC_1 (I := I2) (v := (-3 : Int32)) (r := 3)).trans i2.2.1, i2.1.2.2.1, ref _ J2 _ (rfC_o (by decide) (by decide)) (fun j _ => by rw [rfC_o (by decide) (by decide)]) (rfC_o (by decide) (by decide)) (fun I4 J4 a1 a2 a3 a4 => ?_)⟩
    have zz := (lw_0 hl).1
    rw [b_Mo_show_27 hg2, a4.1, zz, if_pos rfl, b_Mo_show_37 hg2, c_tellR hg2 (v := (-3 : Int32)) (r := 3) (by decide) (by decide) (by decide) (Or.inr a3)]
    simp only [exI]
    rw [b_Mo_show_43]
    have fr : ∀ a j, ¬ (104 ≤ a ∧ a ≤ 112) → ¬ (a = 89 ∧ (j = 0 ∨ j = 31 ∨ j = 34 ∨ j = 36 ∨ j = 44 ∨ j = 45)) → ¬ (a = 6 ∧ j = 14) → ¬ (a = 88 ∧ j = 3) → I4 a j = I2 a j := fun a j y1 y2 y3 y4 => by
      rw [a1 a j y1 (by omega), u2_n (by omega)]
      unfold rfC
      rw [u2_n y4, u2_n y3]
    have e614 : I4 6 14 = -3 := by
      rw [a1 6 14 (by decide) (by decide), u2_a (by decide)]
      unfold rfC
      rw [u2_a (by decide), u2_s]
    have e88 : I4 88 3 = I2 88 3 + nI 1 := by
      rw [a1 88 3 (by decide) (by decide), u2_a (by decide)]
      unfold rfC
      rw [u2_s]
    have e90 : I4 90 3 = I2 90 3 := fr 90 3 (by decide) (by decide) (by decide) (by decide)
    refine ⟨_, rfl, rfl, INVx_i (INV_sh i2 (fun a j y1 y2 y3 y4 y5 y6 y7 => ?_) (fun a y1 y2 y3 y4 => Xj_r a2 y2 y3 y4) (Or.inr ⟨?_, ?_⟩) ?_ ?_ (fun b hb => ?_) (fun r y1 y2 => ?_))⟩
    · rw [u2_n (by omega), u2_n (by omega), fr a j (by omega) (by omega) (by omega) (by omega)]
    · rw [u2_a (by decide), u2_k (by decide)]; exact a3
    · unfold LR at a4 ⊢
      rw [u2_a (by decide), u2_k (by decide), u2_a (by decide), u2_k (by decide), u2_r (by decide), u2_r (by decide)]; exact a4
    · rw [u2_a (by decide), u2_a (by decide), u2_a (by decide), u2_k (by decide), fr 6 15 (by decide) (by decide) (by decide) (by decide), fr 89 61 (by decide) (by decide) (by decide) (by decide)]; exact z4
    · rw [u2_a (by decide), u2_a (by decide), u2_a (by decide), u2_s, e614]
    · rw [u2_a (by decide), u2_a (by decide), u2_a (by decide), u2_a (by decide), fr 87 b (by decide) (by omega) (by omega) (by omega), fr 122 b (by decide) (by omega) (by omega) (by omega)]; exact z5 b hb
    · rw [u2_a (by decide), u2_a (by decide)]
      by_cases q : r = 3
      · rw [q, u2_s, e88, e90, z6 3 (by decide) (by decide)]
      · rw [u2_k q, u2_a (by decide), fr 88 r (by decide) (by omega) (by omega) (by omega), fr 90 r (by decide) (by omega) (by omega) (by omega)]; exact z6 r y1 y2
  rw [decide_eq_true hl, b_Cp_show_24, if_neg (by decide), b_Cp_show_34, nL (by omega)]
  refine w_shCo (d := d + 8) hg2 hS2 hL2 hl f2 (by omega) (fun v1 v2 v5 v6 I3 J3 k1 k2 => ?_) _ _
  rw [b_Cp_show_172 hg2, c_accept hg2]
  simp only [exI]
  rw [b_Cp_show_183]
  have r3 : ∀ a j, a ≠ 34 → a ≠ 87 → ¬ (a = 6 ∧ (j = 14 ∨ j = 15)) → u2 (u2 I3 6 15 (nI 1)) 6 14 (nI 0) a j = I2 a j := fun a j y1 y2 y3 => by
    rw [u2_n (by omega), u2_n (by omega), k1.1 a j y1 y2]
  have hc := (shB_b (S := S) (LF := LF) (s := s) (by omega) 12).2
  refine ⟨_, rfl, by rw [← i2.2.1]; funext j; exact r3 1 j (by decide) (by decide) (by omega), i2.1.2.2.1, ref _ J3 _ (funext (fun j => r3 91 j (by decide) (by decide) (by omega))) (fun j _ => r3 89 j (by decide) (by decide) (by omega)) (funext (fun j => r3 112 j (by decide) (by decide) (by omega))) (fun I4 J4 a1 a2 a3 a4 => ?_)⟩
  have r4 : ∀ a j, a ≠ 34 → a ≠ 87 → ¬ (104 ≤ a ∧ a ≤ 112) → ¬ (a = 89 ∧ (j = 0 ∨ j = 31 ∨ j = 34 ∨ j = 36 ∨ j = 44 ∨ j = 45)) → ¬ (a = 6 ∧ (j = 14 ∨ j = 15)) → I4 a j = I2 a j := fun a j y1 y2 y3 y4 y5 => by
    rw [a1 a j y3 (by omega), u2_n (by omega), r3 a j y1 y2 y5]
  have e91 : I4 91 = I2 91 := funext (fun j => r4 91 j (by decide) (by decide) (by decide) (by omega) (by omega))
  rw [b_Mo_show_27 hg2, a4.1, if_neg (by rw [neq (by omega) (by omega)]; omega), b_Mo_show_44, nL (by omega)]
  refine w_shMo (d := d + 7) hg2 hB (T := I2 14) (by rw [e91]; exact hM2) (sc := I2) (by rw [e91]; exact hL2) (fun b hb f hf => a4.2.2 hl b hb f hf) (by omega) (fun v1 v2 v5 v6 v7 I5 J5 k3 k4 => ?_) _ _ _
  rw [b_Mo_show_200 hg2, c_tellN hg2 (by rw [nlt (by omega) (by omega)]; omega)]
  simp only [exI]
  rw [b_Mo_show_211]
  refine ⟨_, rfl, rfl, INVx_i (INV_sh i2 (fun a j y1 y2 y3 y4 y5 y6 y7 => ?_) (fun a y1 y2 y3 y4 => ?_) (Or.inl u2_s) ?_ ?_ (fun b hb => ?_) (fun r y1 y2 => ?_))⟩
  · rw [u2_n (by omega), u2_n (by omega), u2_n (by omega), k3.1 a j (by omega) (by omega), r4 a j (by omega) (by omega) (by omega) (by omega) (by omega)]
  · rw [Xj_r k3.2 y2 y3 y4, Xj_r a2 y2 y3 y4, k1.2 a y1]
  · rw [u2_a (by decide), u2_a (by decide), u2_a (by decide), u2_k (by decide), u2_k (by decide), u2_s, k3.1 6 15 (by decide) (by decide), a1 6 15 (by decide) (by decide), u2_a (by decide), u2_k (by decide), u2_s]
  · rw [u2_a (by decide), u2_a (by decide), u2_a (by decide), u2_k (by decide), u2_s, k3.1 6 14 (by decide) (by decide), a1 6 14 (by decide) (by decide), u2_a (by decide), u2_s]
  · rw [u2_a (by decide), u2_a (by decide), u2_a (by decide), u2_a (by decide), u2_a (by decide), u2_a (by decide), k4 b hb, k3.1 87 b (by decide) (by omega), a1 87 b (by decide) (by omega), u2_a (by decide), u2_a (by decide), u2_a (by decide), k2 b hb]
  · rw [u2_a (by decide), u2_a (by decide), u2_a (by decide), u2_a (by decide), u2_a (by decide), u2_a (by decide), k3.1 88 r (by decide) (by omega), k3.1 90 r (by decide) (by omega), r4 88 r (by decide) (by decide) (by decide) (by omega) (by omega), r4 90 r (by decide) (by decide) (by decide) (by omega) (by omega)]; exact z6 r y1 y2
end SH2
