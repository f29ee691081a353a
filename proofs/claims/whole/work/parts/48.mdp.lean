/-! ===== the least passing: the reference's beats ===== -/
section MD
variable {d : Nat} {g : aG} {I : Nat → Nat → Int32} {J : Nat → Nat → Int64} {Q : aQ} {S : Nat → Nat → Nat} {T : Nat → Int32} {LF : aLF}
def mA (M : aM) (r : Nat → Nat) (I : Nat → Nat → Int32) (x y : Nat) : Prop := ∀ c, c < 4096 → I x (r c) = nI (M c).1 ∧ I y (r c) = nI (M c).2
theorem c_backFigure (hg : Geo g) (hB : SB S) (hM : MS S T (I 91)) {sc : Nat → Nat → Int32} (hL : LJ LF sc (I 91)) {M : aM} {n f b : Nat} (hF : FB n M) (hn : n ≤ 900000) (hf : f < 6) (hb : b < 11) (hA : mA M (fun c => c) I 107 108) (hQ : ∀ I' J', Xd I I' → I' 105 = I 105 → I' 106 = I 106 → Xj J J' → mA (bk1 S LF b f M) (fun c => c) I' 107 108 → Q none (g, I', J')) : a_call aTab aMX (d + 5) m_Mo_backFigure [.ref 89, .int (nI f), .int (nI b), .int (bi (sOn S f b)), .int (bi (sOn S f (b + 1)))] (g, I, J) Q := by
  have e1 : sOn2 S f b = sOn S f b := sOn2_lt (by omega)
  have e2 : sOn2 S f (b + 1) = sOn S f (b + 1) := sOn2_lt (by omega)
  rw [e_Mo_backFigure, b_Mo_backFigure_0]
  -- the third loop
  have loop3 : ∀ k, k ≤ 4096 → ∀ I2 J2, Xd I I2 → I2 105 = I 105 → I2 106 = I 106 → Xj J J2 → (∀ c, c < k → I2 107 c = nI (bk1 S LF b f M c).1 ∧ I2 108 c = nI (bk1 S LF b f M c).2) → (∀ c, c < 4096 → I2 109 c = nI (bk1 S LF b f M c).1 ∧ I2 110 c = nI (bk1 S LF b f M c).2) → ∀ v1 v2 v3 v4 v5 v7 v8 v9 v11 v12 v13, a_wp aTab aMX (d + 4) m_Mo_backFigure 271 [.ref 89, v1, v2, v3, v4, v5, .int (nI k), v7, v8, v9, aU, v11, v12, v13] [] (g, I2, J2) Q := by
    refine dn ?_ ?_
    · intro I2 J2 g1 g5 g6 g2 g3 g4 v1 v2 v3 v4 v5 v7 v8 v9 v11 v12 v13
      simp (disch := omega) only [b_Mo_backFigure_271, b_Mo_backFigure_313, ↓reduceIte, nadd, nmul, nsub, nlt, neq, ncl, nvi, ndiv, nrem, exI, exJ, exV, eq_self, true_and, and_true, true_or, or_true, if_true, if_false, not_true, not_false_eq_true, false_and, and_false, decide_true, decide_false, bi_T, bi_F, bi_0, bi_1, bi_z, bft, n10, n01, Nat.reduceEqDiff, Nat.reduceLT, Nat.reduceAdd, Nat.reduceMul, reduceCtorEq, Nat.lt_irrefl]
      exact hQ I2 J2 g1 g5 g6 g2 g3
    · intro k hk ih I2 J2 g1 g5 g6 g2 g3 g4 v1 v2 v3 v4 v5 v7 v8 v9 v11 v12 v13
      rw [b_Mo_backFigure_271]
      simp (disch := omega) only [b_Mo_backFigure_279 hg, ↓reduceIte, nadd, nmul, nsub, nlt, neq, ncl, nvi, ndiv, nrem, exI, exJ, exV, eq_self, true_and, and_true, true_or, or_true, if_true, if_false, not_true, not_false_eq_true, false_and, and_false, decide_true, decide_false, bi_T, bi_F, bi_0, bi_1, bi_z, bft, n10, n01, Nat.reduceEqDiff, Nat.reduceLT, Nat.reduceAdd, Nat.reduceMul, reduceCtorEq, hk]
      refine ih _ _ (Xd_u (by omega) (Xd_u (by omega) g1)) ?_ ?_ g2 ?_ ?_ _ _ _ _ _ _ _ _ _ _ _
      · rw [u2_r (by decide), u2_r (by decide)]; exact g5
      · rw [u2_r (by decide), u2_r (by decide)]; exact g6
      · intro c hc
        by_cases q : c = k
        · rw [q, u2_a (by decide), u2_s, u2_s, u2_a (by decide)]
          exact g4 k hk
        · rw [u2_a (by decide), u2_k q, u2_k q, u2_a (by decide)]
          exact g3 c (by omega)
      · intro c hc
        rw [u2_a (by decide), u2_a (by decide), u2_a (by decide), u2_a (by decide)]
        exact g4 c hc
  -- the second loop
  have loop2 : ∀ k, k ≤ 4096 → ∀ I2 J2, Xd I I2 → I2 105 = I 105 → I2 106 = I 106 → Xj J J2 → I2 107 = I 107 → I2 108 = I 108 → (∀ i, i < 16 → I2 111 i = nI (psv S LF f b (i / 4) (i % 4))) → (∀ c, c < k → I2 109 c = nI (bk1 S LF b f M c).1 ∧ I2 110 c = nI (bk1 S LF b f M c).2) → ∀ v1 v2 v7 v8 v9 v11 v12 v13, a_wp aTab aMX (d + 4) m_Mo_backFigure 77 [.ref 89, v1, v2, .int (bi (sOn S f b)), .int (bi (sOn S f (b + 1))), .int (nI (2 * (5 - f))), .int (nI k), v7, v8, v9, aU, v11, v12, v13] [] (g, I2, J2) Q := by
    refine dn ?_ ?_
    · intro I2 J2 g1 g5 g6 g2 g7 g8 g9 g4 v1 v2 v7 v8 v9 v11 v12 v13
      simp (disch := omega) only [b_Mo_backFigure_77, b_Mo_backFigure_268, ↓reduceIte, nadd, nmul, nsub, nlt, neq, ncl, nvi, ndiv, nrem, exI, exJ, exV, eq_self, true_and, and_true, true_or, or_true, if_true, if_false, not_true, not_false_eq_true, false_and, and_false, decide_true, decide_false, bi_T, bi_F, bi_0, bi_1, bi_z, bft, n10, n01, Nat.reduceEqDiff, Nat.reduceLT, Nat.reduceAdd, Nat.reduceMul, reduceCtorEq, Nat.lt_irrefl]
      exact loop3 0 (by omega) I2 J2 g1 g5 g6 g2 (fun c hc => absurd hc (by omega)) g4 _ _ _ _ _ _ _ _ _ _ _
    · intro k hk ih I2 J2 g1 g5 g6 g2 g7 g8 g9 g4 v1 v2 v7 v8 v9 v11 v12 v13
      have hdg := dg_lt (c := k) (f := f)
      simp (disch := omega) only [b_Mo_backFigure_77, b_Mo_backFigure_85, ↓reduceIte, nadd, nmul, nsub, nlt, neq, ncl, nvi, ndiv, nrem, exI, exJ, exV, eq_self, true_and, and_true, true_or, or_true, if_true, if_false, not_true, not_false_eq_true, false_and, and_false, decide_true, decide_false, bi_T, bi_F, bi_0, bi_1, bi_z, bft, n10, n01, Nat.reduceEqDiff, Nat.reduceLT, Nat.reduceAdd, Nat.reduceMul, reduceCtorEq, hk, hIn2]
      have hbd := mt_b (pas := psv S LF f b (dg 6 k f)) hF hk hf hn (psv_le S LF f b _)
      have fin : ∀ v11 v12 v13, a_wp aTab aMX (d + 4) m_Mo_backFigure 213 [.ref 89, aU, aU, .int (bi (sOn S f b)), .int (bi (sOn S f (b + 1))), .int (nI (2 * (5 - f))), .int (nI k), .int (nI (dg 6 k f)), .int (nI (mt M (psv S LF f b (dg 6 k f)) k f (if sOn S f (b + 1) then 4 else 1)).1), .long (lN (mt M (psv S LF f b (dg 6 k f)) k f (if sOn S f (b + 1) then 4 else 1)).2), aU, v11, v12, v13] [] (g, I2, J2) Q := by
        intro v11 v12 v13
        have h := hbd (if sOn S f (b + 1) then 4 else 1) (by split <;> omega)
        have h4 : (if sOn S f (b + 1) then 4 else 1) ≤ 4 := by split <;> omega
        have eb : bk1 S LF b f M k = (if sOn S f b = true ∨ dg 6 k f = 0 then (mt M (psv S LF f b (dg 6 k f)) k f (if sOn S f (b + 1) then 4 else 1)).1 else 1000000, min 1000000000 (mt M (psv S LF f b (dg 6 k f)) k f (if sOn S f (b + 1) then 4 else 1)).2) := by
          unfold bk1
          rw [e1, e2]
        generalize (mt M (psv S LF f b (dg 6 k f)) k f (if sOn S f (b + 1) then 4 else 1)) = m at *
        generalize (if sOn S f (b + 1) then 4 else 1) = four at *
        have hm2 : m.2 < 9223372036854775808 := by
          have : four * 1000000000 ≤ 4 * 1000000000 := Nat.mul_le_mul_right _ h4
          omega
        have tail : ∀ x : Nat, x = (if sOn S f b = true ∨ dg 6 k f = 0 then m.1 else 1000000) → ∀ v7 v8, a_wp aTab aMX (d + 4) m_Mo_backFigure 236 [.ref 89, aU, aU, .int (bi (sOn S f b)), .int (bi (sOn S f (b + 1))), .int (nI (2 * (5 - f))), .int (nI k), v7, v8, .long (lN m.2), aU, aU, aU, aU] [.int (nI x), .int (nI k), .ref 109] (g, I2, J2) Q := by
          intro x hx v7 v8
          have last : ∀ y : Nat, y = min 1000000000 m.2 → ∀ v7 v8 v9, a_wp aTab aMX (d + 4) m_Mo_backFigure 261 [.ref 89, aU, aU, .int (bi (sOn S f b)), .int (bi (sOn S f (b + 1))), .int (nI (2 * (5 - f))), .int (nI k), v7, v8, v9, aU, aU, aU, aU] [.int (nI y), .int (nI k), .ref 110] (g, u2 I2 109 k (nI x), J2) Q := by
            intro y hy v7 v8 v9
            rw [b_Mo_backFigure_261 hg]
            simp (disch := omega) only [↓reduceIte, nadd, nmul, nsub, nlt, neq, ncl, nvi, ndiv, nrem, exI, exJ, exV, eq_self, true_and, and_true, true_or, or_true, if_true, if_false, not_true, not_false_eq_true, false_and, and_false, decide_true, decide_false, bi_T, bi_F, bi_0, bi_1, bi_z, bft, n10, n01, Nat.reduceEqDiff, Nat.reduceLT, Nat.reduceAdd, Nat.reduceMul, reduceCtorEq]
            refine ih _ _ (Xd_u (by omega) (Xd_u (by omega) g1)) ?_ ?_ g2 ?_ ?_ ?_ ?_ _ _ _ _ _ _ _ _
            · rw [u2_r (by decide), u2_r (by decide)]; exact g5
            · rw [u2_r (by decide), u2_r (by decide)]; exact g6
            · rw [u2_r (by decide), u2_r (by decide)]; exact g7
            · rw [u2_r (by decide), u2_r (by decide)]; exact g8
            · intro i hi
              rw [u2_a (by decide), u2_a (by decide)]
              exact g9 i hi
            · intro c hc
              by_cases q : c = k
              · rw [q, u2_a (by decide), u2_s, u2_s, eb, hx, hy]
                exact ⟨rfl, rfl⟩
              · rw [u2_a (by decide), u2_k q, u2_k q, u2_a (by decide)]
                exact g4 c (by omega)
          rw [b_Mo_backFigure_236 hg]
          simp (disch := omega) only [↓reduceIte, nadd, nmul, nsub, nlt, neq, ncl, nvi, ndiv, nrem, exI, exJ, exV, eq_self, true_and, and_true, true_or, or_true, if_true, if_false, not_true, not_false_eq_true, false_and, and_false, decide_true, decide_false, bi_T, bi_F, bi_0, bi_1, bi_z, bft, n10, n01, Nat.reduceEqDiff, Nat.reduceLT, Nat.reduceAdd, Nat.reduceMul, reduceCtorEq]
          by_cases q : 1000000000 < m.2
          · rw [if_pos ((pk_lLT (by omega) (by omega)).2 q), b_Mo_backFigure_252]
            exact last _ (by omega) _ _ _
          · rw [if_neg (fun z => q ((pk_lLT (by omega) (by omega)).1 z)), b_Mo_backFigure_258, lN_i]
            exact last _ (by omega) _ _ _
        rw [b_Mo_backFigure_213 hg]
        by_cases q1 : sOn S f b = true
        · simp (disch := omega) only [b_Mo_backFigure_228, ↓reduceIte, nadd, nmul, nsub, nlt, neq, ncl, nvi, ndiv, nrem, exI, exJ, exV, eq_self, true_and, and_true, true_or, or_true, if_true, if_false, not_true, not_false_eq_true, false_and, and_false, decide_true, decide_false, bi_T, bi_F, bi_0, bi_1, bi_z, bft, n10, n01, Nat.reduceEqDiff, Nat.reduceLT, Nat.reduceAdd, Nat.reduceMul, reduceCtorEq, q1]
          have := tail m.1 (by rw [if_pos (Or.inl q1)]) aU (.int (nI m.1))
          rw [q1] at this
          exact this
        · by_cases q2 : dg 6 k f = 0
          · simp (disch := omega) only [b_Mo_backFigure_223, b_Mo_backFigure_228, ↓reduceIte, nadd, nmul, nsub, nlt, neq, ncl, nvi, ndiv, nrem, exI, exJ, exV, eq_self, true_and, and_true, true_or, or_true, if_true, if_false, not_true, not_false_eq_true, false_and, and_false, decide_true, decide_false, bi_T, bi_F, bi_0, bi_1, bi_z, bft, n10, n01, Nat.reduceEqDiff, Nat.reduceLT, Nat.reduceAdd, Nat.reduceMul, reduceCtorEq, q1, q2]
            have := tail m.1 (by rw [if_pos (Or.inr q2)]) aU (.int (nI m.1))
            rw [Bool.eq_false_iff.2 q1] at this
            exact this
          · simp (disch := omega) only [b_Mo_backFigure_223, b_Mo_backFigure_233, ↓reduceIte, nadd, nmul, nsub, nlt, neq, ncl, nvi, ndiv, nrem, exI, exJ, exV, eq_self, true_and, and_true, true_or, or_true, if_true, if_false, not_true, not_false_eq_true, false_and, and_false, decide_true, decide_false, bi_T, bi_F, bi_0, bi_1, bi_z, bft, n10, n01, Nat.reduceEqDiff, Nat.reduceLT, Nat.reduceAdd, Nat.reduceMul, reduceCtorEq, q1, q2]
            have := tail 1000000 (by rw [if_neg (fun z => by rcases z with z | z; exact q1 z; exact q2 z)]) aU aU
            rw [Bool.eq_false_iff.2 q1] at this
            exact this
      have inner : ∀ t, t ≤ (if sOn S f (b + 1) then 4 else 1) → ∀ v12 v13, a_wp aTab aMX (d + 4) m_Mo_backFigure 105 [.ref 89, aU, aU, .int (bi (sOn S f b)), .int (bi (sOn S f (b + 1))), .int (nI (2 * (5 - f))), .int (nI k), .int (nI (dg 6 k f)), .int (nI (mt M (psv S LF f b (dg 6 k f)) k f t).1), .long (lN (mt M (psv S LF f b (dg 6 k f)) k f t).2), aU, .int (nI t), v12, v13] [] (g, I2, J2) Q := by
        have h4 : (if sOn S f (b + 1) then 4 else 1) ≤ 4 := by split <;> omega
        have lim : ∀ t (P : Prop), t ≤ 4 → (t < (if sOn S f (b + 1) then 4 else 1) → a_wp aTab aMX (d + 4) m_Mo_backFigure 120 [.ref 89, aU, aU, .int (bi (sOn S f b)), .int (bi (sOn S f (b + 1))), .int (nI (2 * (5 - f))), .int (nI k), .int (nI (dg 6 k f)), .int (nI (mt M (psv S LF f b (dg 6 k f)) k f t).1), .long (lN (mt M (psv S LF f b (dg 6 k f)) k f t).2), aU, .int (nI t), aU, aU] [] (g, I2, J2) Q) → (¬ t < (if sOn S f (b + 1) then 4 else 1) → a_wp aTab aMX (d + 4) m_Mo_backFigure 213 [.ref 89, aU, aU, .int (bi (sOn S f b)), .int (bi (sOn S f (b + 1))), .int (nI (2 * (5 - f))), .int (nI k), .int (nI (dg 6 k f)), .int (nI (mt M (psv S LF f b (dg 6 k f)) k f t).1), .long (lN (mt M (psv S LF f b (dg 6 k f)) k f t).2), aU, .int (nI t), aU, aU] [] (g, I2, J2) Q) → ∀ v12 v13, a_wp aTab aMX (d + 4) m_Mo_backFigure 105 [.ref 89, aU, aU, .int (bi (sOn S f b)), .int (bi (sOn S f (b + 1))), .int (nI (2 * (5 - f))), .int (nI k), .int (nI (dg 6 k f)), .int (nI (mt M (psv S LF f b (dg 6 k f)) k f t).1), .long (lN (mt M (psv S LF f b (dg 6 k f)) k f t).2), aU, .int (nI t), v12, v13] [] (g, I2, J2) Q := by
          intro t P ht ha hb2 v12 v13
          rw [b_Mo_backFigure_105]
          by_cases q : sOn S f (b + 1) = true
          · rw [q] at ha hb2
            rw [if_pos rfl] at ha hb2
            by_cases q2 : t < 4
            · have ha := ha q2
              simp (disch := omega) only [b_Mo_backFigure_112, b_Mo_backFigure_117, ↓reduceIte, nadd, nmul, nsub, nlt, neq, ncl, nvi, ndiv, nrem, exI, exJ, exV, eq_self, true_and, and_true, true_or, or_true, if_true, if_false, not_true, not_false_eq_true, false_and, and_false, decide_true, decide_false, bi_T, bi_F, bi_0, bi_1, bi_z, bft, n10, n01, Nat.reduceEqDiff, Nat.reduceLT, Nat.reduceAdd, Nat.reduceMul, reduceCtorEq, q, q2]
              exact ha
            · have hb2 := hb2 q2
              simp (disch := omega) only [b_Mo_backFigure_112, b_Mo_backFigure_117, ↓reduceIte, nadd, nmul, nsub, nlt, neq, ncl, nvi, ndiv, nrem, exI, exJ, exV, eq_self, true_and, and_true, true_or, or_true, if_true, if_false, not_true, not_false_eq_true, false_and, and_false, decide_true, decide_false, bi_T, bi_F, bi_0, bi_1, bi_z, bft, n10, n01, Nat.reduceEqDiff, Nat.reduceLT, Nat.reduceAdd, Nat.reduceMul, reduceCtorEq, q, q2]
              exact hb2
          · rw [Bool.eq_false_iff.2 q] at ha hb2
            rw [if_neg (by decide)] at ha hb2
            by_cases q2 : t < 1
            · have ha := ha q2
              simp (disch := omega) only [b_Mo_backFigure_116, b_Mo_backFigure_117, ↓reduceIte, nadd, nmul, nsub, nlt, neq, ncl, nvi, ndiv, nrem, exI, exJ, exV, eq_self, true_and, and_true, true_or, or_true, if_true, if_false, not_true, not_false_eq_true, false_and, and_false, decide_true, decide_false, bi_T, bi_F, bi_0, bi_1, bi_z, bft, n10, n01, Nat.reduceEqDiff, Nat.reduceLT, Nat.reduceAdd, Nat.reduceMul, reduceCtorEq, q, q2]
              exact ha
            · have hb2 := hb2 q2
              simp (disch := omega) only [b_Mo_backFigure_116, b_Mo_backFigure_117, ↓reduceIte, nadd, nmul, nsub, nlt, neq, ncl, nvi, ndiv, nrem, exI, exJ, exV, eq_self, true_and, and_true, true_or, or_true, if_true, if_false, not_true, not_false_eq_true, false_and, and_false, decide_true, decide_false, bi_T, bi_F, bi_0, bi_1, bi_z, bft, n10, n01, Nat.reduceEqDiff, Nat.reduceLT, Nat.reduceAdd, Nat.reduceMul, reduceCtorEq, q, q2]
              exact hb2
        refine dn ?_ ?_
        · intro v12 v13
          exact lim _ True h4 (fun z => absurd z (Nat.lt_irrefl _)) (fun _ => fin _ _ _) v12 v13
        · intro t ht iht v12 v13
          refine lim t True (by omega) (fun _ => ?_) (fun z => absurd ht z) v12 v13
          have hs := sd_lt hk hf (show t < 4 by omega)
          have hM1 := hA (sd k f t) hs
          have hFb := hF (sd k f t) hs
          have h9 := psv_le S LF f b (dg 6 k f) t
          have hp9 : I2 111 (4 * dg 6 k f + t) = nI (psv S LF f b (dg 6 k f) t) := by
            rw [g9 _ (by omega), show (4 * dg 6 k f + t) / 4 = dg 6 k f by omega, show (4 * dg 6 k f + t) % 4 = t by omega]
          have hm := hbd t (by omega)
          have em : mt M (psv S LF f b (dg 6 k f)) k f (t + 1) = if (M (sd k f t)).1 < 1000000 ∧ (M (sd k f t)).1 + psv S LF f b (dg 6 k f) t ≤ (mt M (psv S LF f b (dg 6 k f)) k f t).1 then ((M (sd k f t)).1 + psv S LF f b (dg 6 k f) t, (if (M (sd k f t)).1 + psv S LF f b (dg 6 k f) t < (mt M (psv S LF f b (dg 6 k f)) k f t).1 then 0 else (mt M (psv S LF f b (dg 6 k f)) k f t).2) + (M (sd k f t)).2) else mt M (psv S LF f b (dg 6 k f)) k f t := rfl
          rw [em] at iht
          generalize mt M (psv S LF f b (dg 6 k f)) k f t = m at *
          generalize psv S LF f b (dg 6 k f) t = ps at *
          have c7 : I2 107 (sd k f t) = nI (M (sd k f t)).1 := by rw [g7]; exact hM1.1
          have c8 : I2 108 (sd k f t) = nI (M (sd k f t)).2 := by rw [g8]; exact hM1.2
          generalize M (sd k f t) = x at *
          rw [b_Mo_backFigure_120 hg]
          simp (disch := omega) only [↓reduceIte, nadd, nmul, nsub, nlt, neq, ncl, nvi, ndiv, nrem, exI, exJ, exV, eq_self, true_and, and_true, true_or, or_true, if_true, if_false, not_true, not_false_eq_true, false_and, and_false, decide_true, decide_false, bi_T, bi_F, bi_0, bi_1, bi_z, bft, n10, n01, Nat.reduceEqDiff, Nat.reduceLT, Nat.reduceAdd, Nat.reduceMul, reduceCtorEq, sdI, c7, hp9]
          by_cases q1 : x.1 < 1000000
          rotate_left
          · rw [if_neg (fun z => q1 z.1)] at iht
            simp (disch := omega) only [b_Mo_backFigure_207, ↓reduceIte, nadd, nmul, nsub, nlt, neq, ncl, nvi, ndiv, nrem, exI, exJ, exV, eq_self, true_and, and_true, true_or, or_true, if_true, if_false, not_true, not_false_eq_true, false_and, and_false, decide_true, decide_false, bi_T, bi_F, bi_0, bi_1, bi_z, bft, n10, n01, Nat.reduceEqDiff, Nat.reduceLT, Nat.reduceAdd, Nat.reduceMul, reduceCtorEq, q1]
            exact iht _ _
          by_cases q2 : m.1 < x.1 + ps
          · rw [if_neg (by omega)] at iht
            simp (disch := omega) only [b_Mo_backFigure_172, b_Mo_backFigure_207, ↓reduceIte, nadd, nmul, nsub, nlt, neq, ncl, nvi, ndiv, nrem, exI, exJ, exV, eq_self, true_and, and_true, true_or, or_true, if_true, if_false, not_true, not_false_eq_true, false_and, and_false, decide_true, decide_false, bi_T, bi_F, bi_0, bi_1, bi_z, bft, n10, n01, Nat.reduceEqDiff, Nat.reduceLT, Nat.reduceAdd, Nat.reduceMul, reduceCtorEq, q1, q2]
            exact iht _ _
          rw [if_pos (by omega)] at iht
          by_cases q3 : x.1 + ps < m.1
          · rw [if_pos q3] at iht
            simp (disch := omega) only [b_Mo_backFigure_172, b_Mo_backFigure_179, b_Mo_backFigure_186, b_Mo_backFigure_192 hg, b_Mo_backFigure_207, ↓reduceIte, nadd, nmul, nsub, nlt, neq, ncl, nvi, ndiv, nrem, exI, exJ, exV, eq_self, true_and, and_true, true_or, or_true, if_true, if_false, not_true, not_false_eq_true, false_and, and_false, decide_true, decide_false, bi_T, bi_F, bi_0, bi_1, bi_z, bft, n10, n01, Nat.reduceEqDiff, Nat.reduceLT, Nat.reduceAdd, Nat.reduceMul, reduceCtorEq, q1, q2, q3, c8, nI_l, lN_add]
            exact iht _ _
          · rw [if_neg q3] at iht
            simp (disch := omega) only [b_Mo_backFigure_172, b_Mo_backFigure_179, b_Mo_backFigure_190, b_Mo_backFigure_192 hg, b_Mo_backFigure_207, ↓reduceIte, nadd, nmul, nsub, nlt, neq, ncl, nvi, ndiv, nrem, exI, exJ, exV, eq_self, true_and, and_true, true_or, or_true, if_true, if_false, not_true, not_false_eq_true, false_and, and_false, decide_true, decide_false, bi_T, bi_F, bi_0, bi_1, bi_z, bft, n10, n01, Nat.reduceEqDiff, Nat.reduceLT, Nat.reduceAdd, Nat.reduceMul, reduceCtorEq, q1, q2, q3, c8, nI_l, lN_add]
            exact iht _ _
      exact inner 0 (by omega) _ _
  -- the first loop
  have loop1 : ∀ k, k ≤ 16 → ∀ I2 J2, Xd I I2 → I2 105 = I 105 → I2 106 = I 106 → Xj J J2 → I2 107 = I 107 → I2 108 = I 108 → (∀ i, i < k → I2 111 i = nI (psv S LF f b (i / 4) (i % 4))) → a_wp aTab aMX (d + 4) m_Mo_backFigure 3 [.ref 89, .int (nI f), .int (nI b), .int (bi (sOn S f b)), .int (bi (sOn S f (b + 1))), .int (nI k), aU, aU, aU, aU, aU, aU, aU, aU] [] (g, I2, J2) Q := by
    refine dn ?_ ?_
    · intro I2 J2 g1 g5 g6 g2 g7 g8 g9
      simp (disch := omega) only [b_Mo_backFigure_3, b_Mo_backFigure_67, ↓reduceIte, nadd, nmul, nsub, nlt, neq, ncl, nvi, ndiv, nrem, exI, exJ, exV, eq_self, true_and, and_true, true_or, or_true, if_true, if_false, not_true, not_false_eq_true, false_and, and_false, decide_true, decide_false, bi_T, bi_F, bi_0, bi_1, bi_z, bft, n10, n01, Nat.reduceEqDiff, Nat.reduceLT, Nat.reduceAdd, Nat.reduceMul, reduceCtorEq, Nat.lt_irrefl]
      exact loop2 0 (by omega) I2 J2 g1 g5 g6 g2 g7 g8 g9 (fun c hc => absurd hc (by omega)) _ _ _ _ _ _ _ _
    · intro k hk ih I2 J2 g1 g5 g6 g2 g7 g8 g9
      have put : ∀ (x : Nat) (I3 : Nat → Nat → Int32) (J3 : Nat → Nat → Int64), x = psv S LF f b (k / 4) (k % 4) → Xh I2 I3 → Xj J2 J3 → a_wp aTab aMX (d + 4) m_Mo_backFigure 60 [.ref 89, .int (nI f), .int (nI b), .int (bi (sOn S f b)), .int (bi (sOn S f (b + 1))), .int (nI k), aU, aU, aU, aU, aU, aU, aU, aU] [.int (nI x), .int (nI k), .ref 111] (g, I3, J3) Q := by
        intro x I3 J3 hx f1 f2
        rw [b_Mo_backFigure_60 hg]
        simp (disch := omega) only [↓reduceIte, nadd, nmul, nsub, nlt, neq, ncl, nvi, ndiv, nrem, exI, exJ, exV, eq_self, true_and, and_true, true_or, or_true, if_true, if_false, not_true, not_false_eq_true, false_and, and_false, decide_true, decide_false, bi_T, bi_F, bi_0, bi_1, bi_z, bft, n10, n01, Nat.reduceEqDiff, Nat.reduceLT, Nat.reduceAdd, Nat.reduceMul, reduceCtorEq]
        refine ih _ _ (Xd_u (by omega) (Xd_tr g1 (Xd_h f1))) ?_ ?_ (Xj_tr g2 f2) ?_ ?_ ?_
        · rw [u2_r (by decide), Xh_r f1 (by decide) (by decide)]; exact g5
        · rw [u2_r (by decide), Xh_r f1 (by decide) (by decide)]; exact g6
        · rw [u2_r (by decide), Xh_r f1 (by decide) (by decide)]; exact g7
        · rw [u2_r (by decide), Xh_r f1 (by decide) (by decide)]; exact g8
        · intro i hi
          by_cases q : i = k
          · rw [q, u2_s, hx]
          · rw [u2_k q, Xh_r f1 (by decide) (by decide)]
            exact g9 i (by omega)
      rw [b_Mo_backFigure_3]
      by_cases q1 : sOn S f b = true
      rotate_left
      · have := put 0 I2 J2 (by unfold psv; rw [if_neg (by rw [e1, Bool.eq_false_iff.2 q1]; simp)]) Xh_rf Xj_rf
        rw [Bool.eq_false_iff.2 q1] at this
        simp (disch := omega) only [b_Mo_backFigure_10 hg, b_Mo_backFigure_59, ↓reduceIte, nadd, nmul, nsub, nlt, neq, ncl, nvi, ndiv, nrem, exI, exJ, exV, eq_self, true_and, and_true, true_or, or_true, if_true, if_false, not_true, not_false_eq_true, false_and, and_false, decide_true, decide_false, bi_T, bi_F, bi_0, bi_1, bi_z, bft, n10, n01, Nat.reduceEqDiff, Nat.reduceLT, Nat.reduceAdd, Nat.reduceMul, reduceCtorEq, hk, q1]
        exact this
      by_cases q2 : sOn S f (b + 1) = true
      rotate_left
      · have := put 0 I2 J2 (by unfold psv; rw [if_neg (by rw [e2, Bool.eq_false_iff.2 q2]; simp)]) Xh_rf Xj_rf
        rw [Bool.eq_false_iff.2 q2, q1] at this
        simp (disch := omega) only [b_Mo_backFigure_10 hg, b_Mo_backFigure_20, b_Mo_backFigure_59, ↓reduceIte, nadd, nmul, nsub, nlt, neq, ncl, nvi, ndiv, nrem, exI, exJ, exV, eq_self, true_and, and_true, true_or, or_true, if_true, if_false, not_true, not_false_eq_true, false_and, and_false, decide_true, decide_false, bi_T, bi_F, bi_0, bi_1, bi_z, bft, n10, n01, Nat.reduceEqDiff, Nat.reduceLT, Nat.reduceAdd, Nat.reduceMul, reduceCtorEq, hk, q1, q2]
        exact this
      have hk4 : k - k / 4 * 4 = k % 4 := by omega
      by_cases q3 : k / 4 = k % 4
      · have q3' : (k / 4 = k % 4) = True := eq_true q3
        have := put 0 I2 J2 (by unfold psv; rw [if_neg (fun z => z.2 q3)]) Xh_rf Xj_rf
        rw [q2, q1] at this
        simp (disch := omega) only [b_Mo_backFigure_10 hg, b_Mo_backFigure_20, b_Mo_backFigure_25, b_Mo_backFigure_59, ↓reduceIte, nadd, nmul, nsub, nlt, neq, ncl, nvi, ndiv, nrem, exI, exJ, exV, eq_self, true_and, and_true, true_or, or_true, if_true, if_false, not_true, not_false_eq_true, false_and, and_false, decide_true, decide_false, bi_T, bi_F, bi_0, bi_1, bi_z, bft, n10, n01, Nat.reduceEqDiff, Nat.reduceLT, Nat.reduceAdd, Nat.reduceMul, reduceCtorEq, hk, q1, q2, hk4, q3']
        exact this
      · simp (disch := omega) only [b_Mo_backFigure_10 hg, b_Mo_backFigure_20, b_Mo_backFigure_25, b_Mo_backFigure_36 hg, ↓reduceIte, nadd, nmul, nsub, nlt, neq, ncl, nvi, ndiv, nrem, exI, exJ, exV, eq_self, true_and, and_true, true_or, or_true, if_true, if_false, not_true, not_false_eq_true, false_and, and_false, decide_true, decide_false, bi_T, bi_F, bi_0, bi_1, bi_z, bft, n10, n01, Nat.reduceEqDiff, Nat.reduceLT, Nat.reduceAdd, Nat.reduceMul, reduceCtorEq, hk, q1, q2, hk4, q3]
        rw [show nI (k % 4) = iI ((k % 4 : Nat) : Int) from (iI_n _).symm]
        have e91 : I2 91 = I 91 := Xd_r g1 (by decide) (by decide)
        refine c_tells hg hB (by rw [e91]; exact hM) (by rw [e91]; exact hL) (head := 1) q2 (by omega) (by omega) (by omega) (by omega) (by decide) (by decide) (by decide) (by decide) ?_
        intro I3 J3 r1 r2
        refine ⟨_, rfl, ?_⟩
        have := put (tl LF 1 (env S f (b + 1) (k / 4) ((k % 4 : Nat) : Int)) 9 1) I3 J3 (by unfold psv; rw [if_pos ⟨by rw [e1, e2, q1, q2]; rfl, q3⟩]) (Xh_t r1) r2
        rw [q1, q2] at this
        rw [b_Mo_backFigure_56]
        exact this
  exact loop1 0 (by omega) I J Xd_rf rfl rfl Xj_rf rfl rfl (fun i hi => absurd hi (by omega))
end MD
