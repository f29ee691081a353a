/-! ===== fewest, barred ===== -/
section FEW
variable {N : Nat} {X : Nat → Int32} {ow : Nat → Nat} {S : Nat → Nat → Nat} {LF : aLF} {g : aG} {I : Nat → Nat → Int32} {J : Nat → Nat → Int64} {Q : aQ} {d : Nat}
theorem c_holdO {I1 : Nat → Nat → Int32} {J1 : Nat → Nat → Int64} (i1 : INV N X ow S LF g I1 J1) {b s hp : Nat} (hb : b < 12) (hs : s &&& sOns S b = s) (hh : hp ≤ 3) (hQ : ∀ I2 J2, INV N X ow S LF g I2 J2 → Q (some (.int (nI (hN S LF hp b s)))) (g, I2, J2)) : a_call aTab aMX (d + 7) m_Mo_holdingsOf [.ref 89, .int (nI b), .int (nI s), .int (nI hp)] (g, I1, J1) Q := by
  refine c_holdingsOf i1.1.1 i1.2.2.1.1.2 i1.2.2.1.2.1 (sc := I1) i1.2.2.1.2.2 hb hs hh (fun I3 J3 c1 c2 => ?_)
  refine hQ I3 J3 (INV_fh i1 (FH_x c1) (FJ_x c2) (HC_c ?_ ?_ (Xj_r c2 (by decide) (by decide) (by decide)) i1.2.2.2.2.2.2.1.1))
  · rw [Xh_r c1 (by decide) (by decide)]
  · rw [Xh_r c1 (by decide) (by decide)]
theorem c_fbO {I1 : Nat → Nat → Int32} {J1 : Nat → Nat → Int64} (i1 : INV N X ow S LF g I1 J1) {hp : Nat} (hh : hp ≤ 3) (hQ : ∀ I2 J2, INV N X ow S LF g I2 J2 → (∀ b, b < 12 → b ≤ fbr S LF hp → I2 39 b = nI 1) → Q (some (.int (if fbr S LF hp < 12 then nI (fbr S LF hp) else -1))) (g, I2, J2)) : a_call aTab aMX (d + 6) m_Hands_firstBarred [.ref 36, .int (nI hp)] (g, I1, J1) Q := by
  refine c_firstBarred i1.1.1 i1.2.2.1.1 i1.2.2.1.2.2 i1.2.2.2.2.2.2.1.1 hh (fun I2 J2 a1 a2 a3 a4 => ?_)
  exact hQ I2 J2 (INV_fh i1 (FH_f (by decide) a1) (FJ_f (by decide) a2) a3) a4
theorem n_m1 {k : Nat} (hk : k < 1000) : (nI k = (-1 : Int32)) = False := eq_false (fun z => by
  have : (nI k).toInt = (-1 : Int32).toInt := by rw [z]
  rw [nI_toInt (by omega), show (-1 : Int32).toInt = -1 from by decide] at this
  omega)
theorem m_fewest (h : INV N X ow S LF g I J) : BOTH N X (d + 8) m_Cp_fewest m_Mo_fewest [] (g, I, J) := by
  have hg := h.1.1
  have hB := h.2.2.1.1.2
  obtain ⟨fw, p1, p2, p3⟩ : ∃ fw, (fw < 4 → fbr S LF fw = 12) ∧ (∀ i, i < fw → fbr S LF i ≠ 12) ∧ fw ≤ 4 := by
    obtain ⟨fw, efw⟩ : ∃ fw, fw = fa_first (fun n => decide (fbr S LF n = 12)) 4 := ⟨_, rfl⟩
    exact ⟨fw, fun z => of_decide_eq_true (fst_yes efw z), fun i hi => of_decide_eq_false (fst_no efw hi), fst_le efw⟩
  have nlt12 : ∀ i, i < fw → fbr S LF i < 12 := fun i hi => by
    have := p2 i hi
    have := fbr_le (S := S) (LF := LF) (hp := i)
    omega
  -- the class
  have cls : ∀ k, k ≤ 4 → k ≤ fw → ∀ (Q : aQ) I1 J1, INV N X ow S LF g I1 J1 → (∀ I2 J2, INV N X ow S LF g I2 J2 → Q (some (.int (if fw < 4 then nI fw else -1))) (g, I2, J2)) → a_wp aTab aMX (d + 7) m_Cp_fewest 2 [.ref 6, .int (nI k)] [] (g, I1, J1) Q := by
    refine dn ?_ ?_
    · intro hk Q I1 J1 i1 hq
      have e3 : I1 3 2 = nI 3 := i1.2.2.2.2.2.2.2.2.1.2.2.1
      have z : ¬ fw < 4 := by omega
      rw [if_neg z] at hq
      rw [b_Cp_fewest_2 hg]
      simp (disch := omega) only [ncl, e3, nlt, Nat.reduceLT, if_true, b_Cp_fewest_31]
      exact hq I1 J1 i1
    · intro k hk ih hkf Q I1 J1 i1 hq
      have e3 : I1 3 2 = nI 3 := i1.2.2.2.2.2.2.2.2.1.2.2.1
      have z3 : ¬ 3 < k := by omega
      rw [b_Cp_fewest_2 hg]
      simp (disch := omega) only [ncl, e3, nlt, z3, if_false, b_Cp_fewest_11 hg]
      refine c_fbO i1 (by omega) (fun I2 J2 i2 _ => ?_)
      by_cases e : k = fw
      · have p12 := p1 (by omega)
        rw [← e] at p12
        rw [if_pos (show fw < 4 by omega), ← e] at hq
        rw [if_neg (show ¬ fbr S LF k < 12 by omega)]
        simp (disch := omega) only [b_Cp_fewest_19, b_Cp_fewest_23, exI, exJ, exV, eq_self, true_and, and_true, true_or, or_true, if_true, if_false, not_true, not_false_eq_true, false_and, and_false, decide_true, decide_false, bi_T, bi_F, bi_0, bi_1, bi_z, bft, n10, n01, Nat.reduceEqDiff, Nat.reduceLT, Nat.reduceAdd, Nat.reduceMul, reduceCtorEq]
        exact hq I2 J2 i2
      · have := nlt12 k (by omega)
        rw [if_pos this]
        simp (disch := omega) only [b_Cp_fewest_19, b_Cp_fewest_25, n_m1, nadd, exI, exJ, exV, eq_self, true_and, and_true, true_or, or_true, if_true, if_false, not_true, not_false_eq_true, false_and, and_false, decide_true, decide_false, bi_T, bi_F, bi_0, bi_1, bi_z, bft, n10, n01, Nat.reduceEqDiff, Nat.reduceLT, Nat.reduceAdd, Nat.reduceMul, reduceCtorEq]
        exact ih (by omega) Q I2 J2 i2 hq
  -- the reference
  have rf : ∀ k, k ≤ 4 → k ≤ fw → ∀ (Q : aQ) I1 J1 v2 v3, INV N X ow S LF g I1 J1 → (∀ I2 J2, INV N X ow S LF g I2 J2 → Q (some (.int (if fw < 4 then nI fw else -1))) (g, I2, J2)) → a_wp aTab aMX (d + 7) m_Mo_fewest 7 [.ref 89, .int (nI k), v2, v3] [] (g, I1, J1) Q := by
    refine dn ?_ ?_
    · intro hk Q I1 J1 v2 v3 i1 hq
      have z : ¬ fw < 4 := by omega
      rw [if_neg z] at hq
      rw [b_Mo_fewest_7]
      simp (disch := omega) only [nlt, Nat.lt_irrefl, if_false, b_Mo_fewest_64]
      exact hq I1 J1 i1
    · intro k hk ih hkf Q I1 J1 v2 v3 i1 hq
      rw [b_Mo_fewest_7]
      simp (disch := omega) only [nlt, hk, if_true, b_Mo_fewest_12]
      have key : ∀ b, b ≤ 12 → b ≤ fbr S LF k → ∀ I1 J1, INV N X ow S LF g I1 J1 → a_wp aTab aMX (d + 7) m_Mo_fewest 16 [.ref 89, .int (nI k), .int (nI 1), .int (nI b)] [] (g, I1, J1) Q := by
        refine dn ?_ ?_
        · intro hb I1 J1 i1
          have e : k = fw := by
            by_cases q : k < fw
            · have := nlt12 k q; omega
            · omega
          rw [if_pos (show fw < 4 by omega), ← e] at hq
          rw [b_Mo_fewest_16]
          simp (disch := omega) only [nlt, Nat.lt_irrefl, b_Mo_fewest_52, b_Mo_fewest_56, exI, exJ, exV, eq_self, true_and, and_true, true_or, or_true, if_true, if_false, not_true, not_false_eq_true, false_and, and_false, decide_true, decide_false, bi_T, bi_F, bi_0, bi_1, bi_z, bft, n10, n01, Nat.reduceEqDiff, Nat.reduceLT, Nat.reduceAdd, Nat.reduceMul, reduceCtorEq]
          exact hq I1 J1 i1
        · intro b hb ih2 hbf I1 J1 i1
          have hs : sOns S b &&& sOns S b = sOns S b := Nat.and_self _
          have hl := hN_le (LF := LF) (hp := k) hB hs (by omega)
          rw [b_Mo_fewest_16]
          simp (disch := omega) only [nlt, hb, b_Mo_fewest_22, b_Mo_fewest_26 hg, b_Mo_fewest_33 hg, c_mOnBits hg hB i1.2.2.1.2.1, exI, exJ, exV, eq_self, true_and, and_true, true_or, or_true, if_true, if_false, not_true, not_false_eq_true, false_and, and_false, decide_true, decide_false, bi_T, bi_F, bi_0, bi_1, bi_z, bft, n10, n01, Nat.reduceEqDiff, Nat.reduceLT, Nat.reduceAdd, Nat.reduceMul, reduceCtorEq]
          refine c_holdO i1 hb hs (by omega) (fun I2 J2 i2 => ?_)
          by_cases e : b = fbr S LF k
          · have hz : hN S LF k b (sOns S b) = 0 := by rw [e]; exact fbr_yes (by omega)
            have hk2 : k < fw := by
              by_cases q : k < fw
              · exact q
              · have := p1 (by omega); have : k = fw := by omega
                rw [this] at e; omega
            rw [hz]
            simp (disch := omega) only [nlt, Nat.lt_irrefl, b_Mo_fewest_37, b_Mo_fewest_44, b_Mo_fewest_45, nadd, exI, exJ, exV, eq_self, true_and, and_true, true_or, or_true, if_true, if_false, not_true, not_false_eq_true, false_and, and_false, decide_true, decide_false, bi_T, bi_F, bi_0, bi_1, bi_z, bft, n10, n01, Nat.reduceEqDiff, Nat.reduceLT, Nat.reduceAdd, Nat.reduceMul, reduceCtorEq]
            have f52 : ∀ v3, a_wp aTab aMX (d + 7) m_Mo_fewest 52 [.ref 89, .int (nI k), .int (nI 0), v3] [] (g, I2, J2) Q := fun v3 => by
              simp (disch := omega) only [b_Mo_fewest_52, b_Mo_fewest_58, nadd, exI, exJ, exV, eq_self, true_and, and_true, true_or, or_true, if_true, if_false, not_true, not_false_eq_true, false_and, and_false, decide_true, decide_false, bi_T, bi_F, bi_0, bi_1, bi_z, bft, n10, n01, Nat.reduceEqDiff, Nat.reduceLT, Nat.reduceAdd, Nat.reduceMul, reduceCtorEq]
              exact ih (by omega) Q I2 J2 _ _ i2 hq
            rw [b_Mo_fewest_16]
            by_cases q : b + 1 < 12
            · simp (disch := omega) only [nlt, q, b_Mo_fewest_22, exI, exJ, exV, eq_self, true_and, and_true, true_or, or_true, if_true, if_false, not_true, not_false_eq_true, false_and, and_false, decide_true, decide_false, bi_T, bi_F, bi_0, bi_1, bi_z, bft, n10, n01, Nat.reduceEqDiff, Nat.reduceLT, Nat.reduceAdd, Nat.reduceMul, reduceCtorEq]
              exact f52 _
            · simp (disch := omega) only [nlt, q, exI, exJ, exV, eq_self, true_and, and_true, true_or, or_true, if_true, if_false, not_true, not_false_eq_true, false_and, and_false, decide_true, decide_false, bi_T, bi_F, bi_0, bi_1, bi_z, bft, n10, n01, Nat.reduceEqDiff, Nat.reduceLT, Nat.reduceAdd, Nat.reduceMul, reduceCtorEq]
              exact f52 _
          · have hz : 0 < hN S LF k b (sOns S b) := by
              have := fbr_no (S := S) (LF := LF) (hp := k) (i := b) (by omega)
              omega
            simp (disch := omega) only [nlt, hz, b_Mo_fewest_37, b_Mo_fewest_40, b_Mo_fewest_45, nadd, exI, exJ, exV, eq_self, true_and, and_true, true_or, or_true, if_true, if_false, not_true, not_false_eq_true, false_and, and_false, decide_true, decide_false, bi_T, bi_F, bi_0, bi_1, bi_z, bft, n10, n01, Nat.reduceEqDiff, Nat.reduceLT, Nat.reduceAdd, Nat.reduceMul, reduceCtorEq]
            exact ih2 (by omega) I2 J2 i2
      exact key 0 (by omega) (by omega) I1 J1 i1
  unfold BOTH
  rw [e_Cp_fewest, b_Cp_fewest_0]
  refine cls 0 (by omega) (by omega) _ I J h (fun I2 J2 i2 => ⟨_, rfl, i2.2.1, i2.1.2.2.1, ?_⟩)
  rw [e_Mo_fewest, b_Mo_fewest_0 hg]
  exact rf 0 (by omega) (by omega) _ _ J2 _ _ (INV_0 i2) (fun I3 J3 i3 => ⟨_, rfl, rfl, INVx_i i3⟩)
theorem m_barred {x : Int32} (h : INV N X ow S LF g I J) : BOTH N X (d + 9) m_Cp_barred m_Mo_barred [.int x] (g, I, J) := by
  have hg := h.1.1
  have hS := h.2.2.1.1
  have hB := hS.2
  have ht := sb10 hB
  by_cases q : ¬ x < nI 0 ∧ ¬ nI 1 < x
  rotate_left
  · have q0 : x ≠ nI 0 := fun z => q (by rw [z]; decide)
    have q1 : x ≠ nI 1 := fun z => q (by rw [z]; decide)
    refine both_t h (-1) (fun Q hq => ?_) (fun Q hq => ?_)
    · simp (disch := omega) only [e_Cp_barred, b_Cp_barred_0, b_Cp_barred_4, b_Cp_barred_9, b_Cp_barred_11 hg, b_Cp_barred_27, b_Cp_barred_33, b_Cp_barred_37, b_Cp_barred_39 hg, b_Cp_barred_56, q0, q1, exI, exJ, exV, eq_self, true_and, and_true, true_or, or_true, if_true, if_false, not_true, not_false_eq_true, false_and, and_false, decide_true, decide_false, bi_T, bi_F, bi_0, bi_1, bi_z, bft, n10, n01, Nat.reduceEqDiff, Nat.reduceLT, Nat.reduceAdd, Nat.reduceMul, reduceCtorEq]; exact hq
    · simp (disch := omega) only [e_Mo_barred, b_Mo_barred_0 hg, b_Mo_barred_12, b_Mo_barred_15, c_inI, decide_eq_false q, exI, exJ, exV, eq_self, true_and, and_true, true_or, or_true, if_true, if_false, not_true, not_false_eq_true, false_and, and_false, decide_true, decide_false, bi_T, bi_F, bi_0, bi_1, bi_z, bft, n10, n01, Nat.reduceEqDiff, Nat.reduceLT, Nat.reduceAdd, Nat.reduceMul, reduceCtorEq]; exact hq
  obtain ⟨w, rfl, -, hw⟩ := irng (by decide) (by decide) q.1 q.2
  obtain ⟨hp, ehp⟩ : ∃ hp, hp = S 10 2 := ⟨_, rfl⟩
  have hp3 : hp ≤ 3 := by omega
  have fl := fbr_le (S := S) (LF := LF) (hp := hp)
  obtain ⟨V, eV⟩ : ∃ V : Int32, V = if fbr S LF hp < 12 then (if w = 0 then nI (fbr S LF hp) else nI (crS S LF hp (fbr S LF hp) 6)) else -1 := ⟨_, rfl⟩
  -- the reference
  have rf : ∀ b, b ≤ 12 → b ≤ fbr S LF hp → ∀ (Q : aQ) I1 J1 v3, INV N X ow S LF g I1 J1 → (∀ I2 J2, INV N X ow S LF g I2 J2 → Q (some (.int V)) (g, I2, J2)) → a_wp aTab aMX (d + 8) m_Mo_barred 19 [.ref 89, .int (nI w), .int (nI b), v3, aU] [] (g, I1, J1) Q := by
    refine dn ?_ ?_
    · intro hb Q I1 J1 v3 i1 hq
      rw [eV, if_neg (by omega)] at hq
      rw [b_Mo_barred_19]
      simp (disch := omega) only [nlt, Nat.lt_irrefl, b_Mo_barred_121, exI, exJ, exV, eq_self, true_and, and_true, true_or, or_true, if_true, if_false, not_true, not_false_eq_true, false_and, and_false, decide_true, decide_false, bi_T, bi_F, bi_0, bi_1, bi_z, bft, n10, n01, Nat.reduceEqDiff, Nat.reduceLT, Nat.reduceAdd, Nat.reduceMul, reduceCtorEq]
      exact hq I1 J1 i1
    · intro b hb ih hbf Q I1 J1 v3 i1 hq
      have hs : sOns S b &&& sOns S b = sOns S b := Nat.and_self _
      have hl := hN_le (LF := LF) (hp := hp) hB hs (by omega)
      have e4 := ms4 i1.2.2.1.2.1
      rw [← ehp] at e4
      rw [b_Mo_barred_19]
      simp (disch := omega) only [nlt, hb, b_Mo_barred_25 hg, b_Mo_barred_30 hg, b_Mo_barred_39 hg, c_mOnBits hg hB i1.2.2.1.2.1, c_term hg, e4, exI, exJ, exV, eq_self, true_and, and_true, true_or, or_true, if_true, if_false, not_true, not_false_eq_true, false_and, and_false, decide_true, decide_false, bi_T, bi_F, bi_0, bi_1, bi_z, bft, n10, n01, Nat.reduceEqDiff, Nat.reduceLT, Nat.reduceAdd, Nat.reduceMul, reduceCtorEq]
      refine c_holdO i1 hb hs (by omega) (fun I2 J2 i2 => ?_)
      by_cases e : b = fbr S LF hp
      rotate_left
      · have hz : ¬ hN S LF hp b (sOns S b) = 0 := fbr_no (by omega)
        simp (disch := omega) only [neq, hz, b_Mo_barred_42, b_Mo_barred_115, nadd, exI, exJ, exV, eq_self, true_and, and_true, true_or, or_true, if_true, if_false, not_true, not_false_eq_true, false_and, and_false, decide_true, decide_false, bi_T, bi_F, bi_0, bi_1, bi_z, bft, n10, n01, Nat.reduceEqDiff, Nat.reduceLT, Nat.reduceAdd, Nat.reduceMul, reduceCtorEq]
        exact ih (by omega) Q I2 J2 _ i2 hq
      have hz : hN S LF hp b (sOns S b) = 0 := by rw [e]; exact fbr_yes (by omega)
      rw [eV, if_pos (by omega), ← e] at hq
      rw [hz]
      simp (disch := omega) only [b_Mo_barred_42, b_Mo_barred_45, exI, exJ, exV, eq_self, true_and, and_true, true_or, or_true, if_true, if_false, not_true, not_false_eq_true, false_and, and_false, decide_true, decide_false, bi_T, bi_F, bi_0, bi_1, bi_z, bft, n10, n01, Nat.reduceEqDiff, Nat.reduceLT, Nat.reduceAdd, Nat.reduceMul, reduceCtorEq]
      have hc : w = 0 ∨ w = 1 := by omega
      rcases hc with rfl | rfl
      · rw [if_pos rfl] at hq
        simp (disch := omega) only [b_Mo_barred_48, b_Mo_barred_55, b_Mo_barred_105, b_Mo_barred_109, b_Mo_barred_114, nlt, neq, exI, exJ, exV, eq_self, true_and, and_true, true_or, or_true, if_true, if_false, not_true, not_false_eq_true, false_and, and_false, decide_true, decide_false, bi_T, bi_F, bi_0, bi_1, bi_z, bft, n10, n01, Nat.reduceEqDiff, Nat.reduceLT, Nat.reduceAdd, Nat.reduceMul, reduceCtorEq, Nat.zero_ne_one]
        exact hq I2 J2 i2
      · have n1 : ¬ (1 = 0) := by decide
        rw [if_neg n1] at hq
        have key : ∀ k, k ≤ 6 → ∀ I3 J3, INV N X ow S LF g I3 J3 → a_wp aTab aMX (d + 8) m_Mo_barred 48 [.ref 89, .int (nI 1), .int (nI b), .int (nI (crS S LF hp b k)), .int (nI k)] [] (g, I3, J3) Q := by
          refine dn ?_ ?_
          · intro I3 J3 i3
            rw [b_Mo_barred_48]
            simp (disch := omega) only [nlt, Nat.lt_irrefl, b_Mo_barred_105, b_Mo_barred_113, b_Mo_barred_114, neq, n1, exI, exJ, exV, eq_self, true_and, and_true, true_or, or_true, if_true, if_false, not_true, not_false_eq_true, false_and, and_false, decide_true, decide_false, bi_T, bi_F, bi_0, bi_1, bi_z, bft, n10, n01, Nat.reduceEqDiff, Nat.reduceLT, Nat.reduceAdd, Nat.reduceMul, reduceCtorEq]
            exact hq I3 J3 i3
          · intro k hk ih2 I3 J3 i3
            have e4 := ms4 i3.2.2.1.2.1
            rw [← ehp] at e4
            have ol := ons_lt hB b
            have hs := crS_sub (S := S) (LF := LF) (hp := hp) (b := b) k
            have hl : crS S LF hp b k < 64 := by have := sub_le hs; omega
            have hs2 : (crS S LF hp b k &&& (63 ^^^ 1 <<< k)) &&& sOns S b = crS S LF hp b k &&& (63 ^^^ 1 <<< k) := by rw [Nat.and_assoc, Nat.and_comm (63 ^^^ 1 <<< k), ← Nat.and_assoc, hs]
            have hl2 := hN_le (LF := LF) (hp := hp) hB hs2 (by omega)
            have ec : crS S LF hp b (k + 1) = if hN S LF hp b (crS S LF hp b k &&& (63 ^^^ 1 <<< k)) = 0 then crS S LF hp b k &&& (63 ^^^ 1 <<< k) else crS S LF hp b k := rfl
            rw [ec] at ih2
            rw [b_Mo_barred_48]
            by_cases qb : (crS S LF hp b k).testBit k = true
            rotate_left
            · have en : crS S LF hp b k &&& (63 ^^^ 1 <<< k) = crS S LF hp b k := by
                apply Nat.eq_of_testBit_eq
                intro i
                rw [Nat.testBit_and, Nat.testBit_xor, Nat.one_shiftLeft, Nat.testBit_two_pow]
                by_cases z : k = i
                · rw [← z]
                  have : (crS S LF hp b k).testBit k = false := by revert qb; cases (crS S LF hp b k).testBit k <;> simp
                  rw [this]; rfl
                · rw [decide_eq_false z, Bool.xor_false]
                  by_cases y : i < 6
                  · rw [show (63 : Nat).testBit i = true from by
                      have : i = 0 ∨ i = 1 ∨ i = 2 ∨ i = 3 ∨ i = 4 ∨ i = 5 := by omega
                      rcases this with rfl | rfl | rfl | rfl | rfl | rfl <;> decide, Bool.and_true]
                  · rw [Nat.testBit_lt_two_pow (show crS S LF hp b k < 2 ^ i from Nat.lt_of_lt_of_le hl (show 2 ^ 6 ≤ 2 ^ i from Nat.pow_le_pow_right (by decide) (by omega))), Bool.false_and]
              rw [en] at ih2
              rw [show (if hN S LF hp b (crS S LF hp b k) = 0 then crS S LF hp b k else crS S LF hp b k) = crS S LF hp b k by split <;> rfl] at ih2
              simp (disch := omega) only [nlt, hk, b_Mo_barred_55, b_Mo_barred_60, b_Mo_barred_66, b_Mo_barred_99, c_is, bt_nI, qb, nadd, exI, exJ, exV, eq_self, true_and, and_true, true_or, or_true, if_true, if_false, not_true, not_false_eq_true, false_and, and_false, decide_true, decide_false, bi_T, bi_F, bi_0, bi_1, bi_z, bft, n10, n01, Nat.reduceEqDiff, Nat.reduceLT, Nat.reduceAdd, Nat.reduceMul, reduceCtorEq]
              exact ih2 I3 J3 i3
            · simp (disch := omega) only [nlt, hk, b_Mo_barred_55, b_Mo_barred_60, b_Mo_barred_66, b_Mo_barred_69 hg, b_Mo_barred_84 hg, c_is, bt_nI, qb, c_term hg, e4, nshl, nandn, exI, exJ, exV, eq_self, true_and, and_true, true_or, or_true, if_true, if_false, not_true, not_false_eq_true, false_and, and_false, decide_true, decide_false, bi_T, bi_F, bi_0, bi_1, bi_z, bft, n10, n01, Nat.reduceEqDiff, Nat.reduceLT, Nat.reduceAdd, Nat.reduceMul, reduceCtorEq]
              refine c_holdO i3 hb hs2 (by omega) (fun I4 J4 i4 => ?_)
              by_cases qz : hN S LF hp b (crS S LF hp b k &&& (63 ^^^ 1 <<< k)) = 0
              · rw [if_pos qz] at ih2
                simp (disch := omega) only [qz, b_Mo_barred_87, b_Mo_barred_90, b_Mo_barred_99, nshl, nandn, nadd, exI, exJ, exV, eq_self, true_and, and_true, true_or, or_true, if_true, if_false, not_true, not_false_eq_true, false_and, and_false, decide_true, decide_false, bi_T, bi_F, bi_0, bi_1, bi_z, bft, n10, n01, Nat.reduceEqDiff, Nat.reduceLT, Nat.reduceAdd, Nat.reduceMul, reduceCtorEq]
                exact ih2 I4 J4 i4
              · rw [if_neg qz] at ih2
                simp (disch := omega) only [neq, qz, b_Mo_barred_87, b_Mo_barred_99, nadd, exI, exJ, exV, eq_self, true_and, and_true, true_or, or_true, if_true, if_false, not_true, not_false_eq_true, false_and, and_false, decide_true, decide_false, bi_T, bi_F, bi_0, bi_1, bi_z, bft, n10, n01, Nat.reduceEqDiff, Nat.reduceLT, Nat.reduceAdd, Nat.reduceMul, reduceCtorEq]
                exact ih2 I4 J4 i4
        exact key 0 (by omega) I2 J2 i2
  have cls : ∀ (Q : aQ), (∀ I2 J2, INV N X ow S LF g I2 J2 → Q (some (.int V)) (g, I2, J2)) → a_call aTab aMX (d + 9) m_Cp_barred [.ref 6, .int (nI w)] (g, I, J) Q := by
    intro Q hq
    have hc : w = 0 ∨ w = 1 := by omega
    have st : a_wp aTab aMX (d + 8) m_Cp_barred 11 [.ref 6, .int (nI w), aU] [] (g, I, J) Q := by
      simp (disch := omega) only [b_Cp_barred_11 hg, ncl, cs10 hS, ← ehp]
      refine c_fbO h (by omega) (fun I2 J2 i2 f39 => ?_)
      by_cases e : fbr S LF hp < 12
      rotate_left
      · rw [eV, if_neg e] at hq
        rw [if_neg e]
        simp (disch := omega) only [b_Cp_barred_27, b_Cp_barred_37, exI, exJ, exV, eq_self, true_and, and_true, true_or, or_true, if_true, if_false, not_true, not_false_eq_true, false_and, and_false, decide_true, decide_false, bi_T, bi_F, bi_0, bi_1, bi_z, bft, n10, n01, Nat.reduceEqDiff, Nat.reduceLT, Nat.reduceAdd, Nat.reduceMul, reduceCtorEq]
        exact hq I2 J2 i2
      rw [eV, if_pos e] at hq
      rw [if_pos e]
      have e10 : I2 10 2 = nI hp := by rw [cs10 i2.2.2.1.1, ehp]
      rcases hc with rfl | rfl
      · simp (disch := omega) only [b_Cp_barred_27, b_Cp_barred_33, b_Cp_barred_37, n_m1, exI, exJ, exV, eq_self, true_and, and_true, true_or, or_true, if_true, if_false, not_true, not_false_eq_true, false_and, and_false, decide_true, decide_false, bi_T, bi_F, bi_0, bi_1, bi_z, bft, n10, n01, Nat.reduceEqDiff, Nat.reduceLT, Nat.reduceAdd, Nat.reduceMul, reduceCtorEq] at hq ⊢
        exact hq I2 J2 i2
      · have n1 : ¬ (1 = 0) := by decide
        rw [if_neg n1] at hq
        simp (disch := omega) only [b_Cp_barred_27, b_Cp_barred_33, b_Cp_barred_39 hg, n_m1, ncl, e10, exI, exJ, exV, eq_self, true_and, and_true, true_or, or_true, if_true, if_false, not_true, not_false_eq_true, false_and, and_false, decide_true, decide_false, bi_T, bi_F, bi_0, bi_1, bi_z, bft, n10, n01, Nat.reduceEqDiff, Nat.reduceLT, Nat.reduceAdd, Nat.reduceMul, reduceCtorEq]
        refine c_coreAt2 hg hB e hp3 (HB_of i2.2.2.2.2.2.2.1.1 e (f39 _ e (Nat.le_refl _))) ?_
        simp (disch := omega) only [b_Cp_barred_56, exI, exJ, exV, eq_self, true_and, and_true, true_or, or_true, if_true, if_false, not_true, not_false_eq_true, false_and, and_false, decide_true, decide_false, bi_T, bi_F, bi_0, bi_1, bi_z, bft, n10, n01, Nat.reduceEqDiff, Nat.reduceLT, Nat.reduceAdd, Nat.reduceMul, reduceCtorEq]
        exact hq I2 J2 i2
    rcases hc with rfl | rfl
    · simp (disch := omega) only [e_Cp_barred, b_Cp_barred_0, exI, exJ, exV, eq_self, true_and, and_true, true_or, or_true, if_true, if_false, not_true, not_false_eq_true, false_and, and_false, decide_true, decide_false, bi_T, bi_F, bi_0, bi_1, bi_z, bft, n10, n01, Nat.reduceEqDiff, Nat.reduceLT, Nat.reduceAdd, Nat.reduceMul, reduceCtorEq]; exact st
    · simp (disch := omega) only [e_Cp_barred, b_Cp_barred_0, b_Cp_barred_4, exI, exJ, exV, eq_self, true_and, and_true, true_or, or_true, if_true, if_false, not_true, not_false_eq_true, false_and, and_false, decide_true, decide_false, bi_T, bi_F, bi_0, bi_1, bi_z, bft, n10, n01, Nat.reduceEqDiff, Nat.reduceLT, Nat.reduceAdd, Nat.reduceMul, reduceCtorEq]; exact st
  unfold BOTH
  refine cls _ (fun I2 J2 i2 => ⟨_, rfl, i2.2.1, i2.1.2.2.1, ?_⟩)
  simp (disch := omega) only [e_Mo_barred, b_Mo_barred_0 hg, b_Mo_barred_12, b_Mo_barred_17, c_inI, decide_eq_true q, exI, exJ, exV, eq_self, true_and, and_true, true_or, or_true, if_true, if_false, not_true, not_false_eq_true, false_and, and_false, decide_true, decide_false, bi_T, bi_F, bi_0, bi_1, bi_z, bft, n10, n01, Nat.reduceEqDiff, Nat.reduceLT, Nat.reduceAdd, Nat.reduceMul, reduceCtorEq]
  exact rf 0 (by omega) (by omega) _ _ J2 _ (INV_0 i2) (fun I3 J3 i3 => ⟨_, rfl, rfl, INVx_i i3⟩)
end FEW
