/-! ===== the least passing: the reference, all of it ===== -/
theorem fcS_0 {S : Nat → Nat → Nat} {LF : aLF} : fcS S LF 0 = (0, lcS S LF) := by simp only [fcS]
theorem fcS_01 {S : Nat → Nat → Nat} {LF : aLF} : (fcS S LF 0).1 = 0 := by simp only [fcS]
theorem fcS_02 {S : Nat → Nat → Nat} {LF : aLF} : (fcS S LF 0).2 = lcS S LF := by simp only [fcS]
theorem fcS_s1 {S : Nat → Nat → Nat} {LF : aLF} (b : Nat) : (fcS S LF (b + 1)).1 = fa_first (fit S LF b (fcS S LF b).1 (fcS S LF b).2) 4096 := by simp only [fcS]
theorem fcS_s2 {S : Nat → Nat → Nat} {LF : aLF} (b : Nat) : (fcS S LF (b + 1)).2 = cst S LF b (fcS S LF (b + 1)).1 := by simp only [fcS]
def LR (S : Nat → Nat → Nat) (LF : aLF) (I : Nat → Nat → Int32) : Prop := I 89 44 = nI (lcS S LF) ∧ I 89 45 = nI (lwS S LF) ∧ (lcS S LF < 1000000 → ∀ b, b < 12 → ∀ f, f < 6 → I 112 (6 * b + f) = nI (dg 6 (fcS S LF (b + 1)).1 f))
def RC (S : Nat → Nat → Nat) (LF : aLF) (I : Nat → Nat → Int32) : Prop := I 89 36 = nI 0 ∨ (I 89 36 = nI 1 ∧ LR S LF I)
theorem lcS_b {S : Nat → Nat → Nat} {LF : aLF} : lcS S LF = 1000000 ∨ lcS S LF ≤ 648 := by
  have h := (lsF_b (dpS_b (S := S) (LF := LF) 12 (Nat.le_refl _)) 4096 (Nat.le_refl _)).1
  unfold lcS
  rcases h with h | h
  · exact Or.inl h
  · exact Or.inr h.1
theorem cst_b {S : Nat → Nat → Nat} {LF : aLF} {b c : Nat} (hc : c < 4096) : cst S LF b c = 1000000 ∨ cst S LF b c ≤ 648 := by
  have h := (dpS_b (S := S) (LF := LF) (12 - b) (by omega) c hc).1
  unfold cst
  rcases h with h | h
  · exact Or.inl h
  · exact Or.inr (by omega)
theorem pbt_b {S : Nat → Nat → Nat} {LF : aLF} {b c e : Nat} : pbt S LF b c e ≤ 54 := fb_sm_bound (c := 9) (n := 6) (fun k _ => psv_le S LF k b _ _)
section MD
variable {d : Nat} {g : aG} {I : Nat → Nat → Int32} {J : Nat → Nat → Int64} {Q : aQ} {S : Nat → Nat → Nat} {T : Nat → Int32} {LF : aLF}
theorem c_passedBetween (hg : Geo g) (hB : SB S) (hM : MS S T (I 91)) {sc : Nat → Nat → Int32} (hL : LJ LF sc (I 91)) {b c e : Nat} (hb : b < 11) (hc : c < 4096) (he : e < 4096) (hQ : ∀ I' J', Xt I I' → Xj J J' → Q (some (.int (nI (pbt S LF b c e)))) (g, I', J')) : a_call aTab aMX (d + 5) m_Mo_passedBetween [.ref 89, .int (nI b), .int (nI c), .int (nI e)] (g, I, J) Q := by
  rw [e_Mo_passedBetween, b_Mo_passedBetween_0]
  have key : ∀ f, f ≤ 6 → ∀ I2 J2, Xt I I2 → Xj J J2 → ∀ v6 v7, a_wp aTab aMX (d + 4) m_Mo_passedBetween 6 [.ref 89, .int (nI b), .int (nI c), .int (nI e), .int (nI (fb_sm (fun f => psv S LF f b (dg 6 c f) (dg 6 e f)) f)), .int (nI f), v6, v7] [] (g, I2, J2) Q := by
    refine dn ?_ ?_
    · intro I2 J2 g1 g2 v6 v7
      simp (disch := omega) only [b_Mo_passedBetween_6, b_Mo_passedBetween_90, ↓reduceIte, nadd, nmul, nsub, nlt, neq, ncl, nvi, ndiv, nrem, exI, exJ, exV, eq_self, true_and, and_true, true_or, or_true, if_true, if_false, not_true, not_false_eq_true, false_and, and_false, decide_true, decide_false, bi_T, bi_F, bi_0, bi_1, bi_z, bft, n10, n01, Nat.reduceEqDiff, Nat.reduceLT, Nat.reduceAdd, Nat.reduceMul, reduceCtorEq, Nat.lt_irrefl]
      exact hQ I2 J2 g1 g2
    · intro f hf ih I2 J2 g1 g2 v6 v7
      have e91 : I2 91 = I 91 := Xt_r g1 (by decide)
      have hM2 : MS S T (I2 91) := by rw [e91]; exact hM
      have d1 := dg_lt (c := c) (f := f)
      have d2 := dg_lt (c := e) (f := f)
      have e1 : sOn2 S f b = sOn S f b := sOn2_lt (by omega)
      have e2 : sOn2 S f (b + 1) = sOn S f (b + 1) := sOn2_lt (by omega)
      rw [fb_sm_succ] at ih
      rw [b_Mo_passedBetween_6]
      simp (disch := omega) only [b_Mo_passedBetween_13, b_Mo_passedBetween_19, b_Mo_passedBetween_27 hg, ↓reduceIte, nadd, nmul, nsub, nlt, neq, ncl, nvi, ndiv, nrem, exI, exJ, exV, eq_self, true_and, and_true, true_or, or_true, if_true, if_false, not_true, not_false_eq_true, false_and, and_false, decide_true, decide_false, bi_T, bi_F, bi_0, bi_1, bi_z, bft, n10, n01, Nat.reduceEqDiff, Nat.reduceLT, Nat.reduceAdd, Nat.reduceMul, reduceCtorEq, hf, c_holderIn, c_mIsOn hg hB hM2]
      by_cases q1 : sOn S f b = true
      rotate_left
      · have ep : psv S LF f b (dg 6 c f) (dg 6 e f) = 0 := by unfold psv; rw [if_neg (by rw [e1, Bool.eq_false_iff.2 q1]; simp)]
        rw [ep] at ih
        simp (disch := omega) only [b_Mo_passedBetween_38, b_Mo_passedBetween_80, b_Mo_passedBetween_81, ↓reduceIte, nadd, nmul, nsub, nlt, neq, ncl, nvi, ndiv, nrem, exI, exJ, exV, eq_self, true_and, and_true, true_or, or_true, if_true, if_false, not_true, not_false_eq_true, false_and, and_false, decide_true, decide_false, bi_T, bi_F, bi_0, bi_1, bi_z, bft, n10, n01, Nat.reduceEqDiff, Nat.reduceLT, Nat.reduceAdd, Nat.reduceMul, reduceCtorEq, q1]
        exact ih I2 J2 g1 g2 _ _
      by_cases q2 : sOn S f (b + 1) = true
      rotate_left
      · have ep : psv S LF f b (dg 6 c f) (dg 6 e f) = 0 := by unfold psv; rw [if_neg (by rw [e2, Bool.eq_false_iff.2 q2]; simp)]
        rw [ep] at ih
        simp (disch := omega) only [b_Mo_passedBetween_38, b_Mo_passedBetween_41 hg, b_Mo_passedBetween_50, b_Mo_passedBetween_80, b_Mo_passedBetween_81, ↓reduceIte, nadd, nmul, nsub, nlt, neq, ncl, nvi, ndiv, nrem, exI, exJ, exV, eq_self, true_and, and_true, true_or, or_true, if_true, if_false, not_true, not_false_eq_true, false_and, and_false, decide_true, decide_false, bi_T, bi_F, bi_0, bi_1, bi_z, bft, n10, n01, Nat.reduceEqDiff, Nat.reduceLT, Nat.reduceAdd, Nat.reduceMul, reduceCtorEq, q1, q2, c_mIsOn hg hB hM2]
        exact ih I2 J2 g1 g2 _ _
      by_cases q3 : dg 6 c f = dg 6 e f
      · have ep : psv S LF f b (dg 6 c f) (dg 6 e f) = 0 := by unfold psv; rw [if_neg (fun z => z.2 q3)]
        have q3' : (dg 6 c f = dg 6 e f) = True := eq_true q3
        rw [ep] at ih
        simp (disch := omega) only [b_Mo_passedBetween_38, b_Mo_passedBetween_41 hg, b_Mo_passedBetween_50, b_Mo_passedBetween_53, b_Mo_passedBetween_80, b_Mo_passedBetween_81, ↓reduceIte, nadd, nmul, nsub, nlt, neq, ncl, nvi, ndiv, nrem, exI, exJ, exV, eq_self, true_and, and_true, true_or, or_true, if_true, if_false, not_true, not_false_eq_true, false_and, and_false, decide_true, decide_false, bi_T, bi_F, bi_0, bi_1, bi_z, bft, n10, n01, Nat.reduceEqDiff, Nat.reduceLT, Nat.reduceAdd, Nat.reduceMul, reduceCtorEq, q1, q2, q3', c_mIsOn hg hB hM2]
        exact ih I2 J2 g1 g2 _ _
      · have ep : psv S LF f b (dg 6 c f) (dg 6 e f) = tl LF 1 (env S f (b + 1) (dg 6 c f) ((dg 6 e f : Nat) : Int)) 9 1 := by unfold psv; rw [if_pos ⟨by rw [e1, e2, q1, q2]; rfl, q3⟩]
        rw [ep] at ih
        simp (disch := omega) only [b_Mo_passedBetween_38, b_Mo_passedBetween_41 hg, b_Mo_passedBetween_50, b_Mo_passedBetween_53, b_Mo_passedBetween_60 hg, ↓reduceIte, nadd, nmul, nsub, nlt, neq, ncl, nvi, ndiv, nrem, exI, exJ, exV, eq_self, true_and, and_true, true_or, or_true, if_true, if_false, not_true, not_false_eq_true, false_and, and_false, decide_true, decide_false, bi_T, bi_F, bi_0, bi_1, bi_z, bft, n10, n01, Nat.reduceEqDiff, Nat.reduceLT, Nat.reduceAdd, Nat.reduceMul, reduceCtorEq, q1, q2, q3, c_mIsOn hg hB hM2]
        rw [show nI (dg 6 e f) = iI ((dg 6 e f : Nat) : Int) from (iI_n _).symm]
        refine c_tells hg hB hM2 (by rw [e91]; exact hL) (head := 1) q2 (by omega) (by omega) (by omega) (by omega) (by decide) (by decide) (by decide) (by decide) ?_
        intro I3 J3 r1 r2
        refine ⟨_, rfl, ?_⟩
        simp (disch := omega) only [b_Mo_passedBetween_77, b_Mo_passedBetween_81, ↓reduceIte, nadd, nmul, nsub, nlt, neq, ncl, nvi, ndiv, nrem, exI, exJ, exV, eq_self, true_and, and_true, true_or, or_true, if_true, if_false, not_true, not_false_eq_true, false_and, and_false, decide_true, decide_false, bi_T, bi_F, bi_0, bi_1, bi_z, bft, n10, n01, Nat.reduceEqDiff, Nat.reduceLT, Nat.reduceAdd, Nat.reduceMul, reduceCtorEq]
        exact ih I3 J3 (Xt_tr g1 r1) (Xj_tr g2 r2) _ _
  exact key 0 (by omega) I J Xt_rf Xj_rf _ _
theorem Xd_t {I I2 : Nat → Nat → Int32} (h : Xt I I2) : Xd I I2 := Xd_h (Xh_t h)
def Xe (I I' : Nat → Nat → Int32) : Prop := ∀ a k, ¬ (104 ≤ a ∧ a ≤ 112) → ¬ (a = 89 ∧ (k = 31 ∨ k = 34 ∨ k = 36 ∨ k = 44 ∨ k = 45)) → I' a k = I a k
theorem Xe_rf {I : Nat → Nat → Int32} : Xe I I := fun _ _ _ _ => rfl
theorem Xe_tr {I I2 I3 : Nat → Nat → Int32} (h : Xe I I2) (h2 : Xe I2 I3) : Xe I I3 := fun a k h3 h4 => (h2 a k h3 h4).trans (h a k h3 h4)
theorem Xe_d {I I2 : Nat → Nat → Int32} (h : Xd I I2) : Xe I I2 := fun a k h3 h4 => h a k h3 (by omega)
theorem Xe_f {I I2 : Nat → Nat → Int32} {k : Nat} {z : Int32} (hk : k = 36 ∨ k = 44 ∨ k = 45) (h : Xe I I2) : Xe I (u2 I2 89 k z) := fun a j h3 h4 => by
  rw [show u2 I2 89 k z a j = I2 a j from if_neg (fun (q : a = 89 ∧ j = k) => h4 ⟨q.1, by omega⟩)]
  exact h a j h3 h4
theorem Xe_r {I I2 : Nat → Nat → Int32} (h : Xe I I2) {a : Nat} (h1 : ¬ (104 ≤ a ∧ a ≤ 112)) (h2 : a ≠ 89) : I2 a = I a := funext (fun k => h a k h1 (by omega))
theorem c_findFirst (hg : Geo g) (hB : SB S) (hM : MS S T (I 91)) {sc : Nat → Nat → Int32} (hL : LJ LF sc (I 91)) (hl : lcS S LF < 1000000) (hA : ∀ b, b < 12 → mA (dpS S LF (12 - b)) (fun c => 4096 * b + c) I 105 106) (h44 : I 89 44 = nI (lcS S LF)) (hQ : ∀ I' J', Xd I I' → Xj J J' → I' 89 36 = I 89 36 → I' 89 44 = I 89 44 → I' 89 45 = I 89 45 → (∀ b, b < 12 → ∀ f, f < 6 → I' 112 (6 * b + f) = nI (dg 6 (fcS S LF (b + 1)).1 f)) → Q none (g, I', J')) : a_call aTab aMX (d + 6) m_Mo_findFirst [.ref 89] (g, I, J) Q := by
  rw [e_Mo_findFirst, b_Mo_findFirst_0 hg, h44]
  have l0 := lcS_b (S := S) (LF := LF)
  have key : ∀ b, b ≤ 12 → ∀ I2 J2, Xd I I2 → Xj J J2 → I2 89 36 = I 89 36 → I2 89 44 = I 89 44 → I2 89 45 = I 89 45 → I2 105 = I 105 → (∀ b2, b2 < b → ∀ f, f < 6 → I2 112 (6 * b2 + f) = nI (dg 6 (fcS S LF (b2 + 1)).1 f)) → ∀ v4 v5, a_wp aTab aMX (d + 5) m_Mo_findFirst 9 [.ref 89, .int (nI (fcS S LF b).2), .int (nI (fcS S LF b).1), .int (nI b), v4, v5] [] (g, I2, J2) Q := by
    refine dn ?_ ?_
    · intro I2 J2 g1 g2 g3 g4 g5 g6 g7 v4 v5
      simp (disch := omega) only [b_Mo_findFirst_9, b_Mo_findFirst_137, ↓reduceIte, nadd, nmul, nsub, nlt, neq, ncl, nvi, ndiv, nrem, exI, exJ, exV, eq_self, true_and, and_true, true_or, or_true, if_true, if_false, not_true, not_false_eq_true, false_and, and_false, decide_true, decide_false, bi_T, bi_F, bi_0, bi_1, bi_z, bft, n10, n01, Nat.reduceEqDiff, Nat.reduceLT, Nat.reduceAdd, Nat.reduceMul, reduceCtorEq, Nat.lt_irrefl]
      exact hQ I2 J2 g1 g2 g3 g4 g5 g7
    · intro b hb ih I2 J2 g1 g2 g3 g4 g5 g6 g7 v4 v5
      obtain ⟨o1, o2, o3⟩ := fc_ok hl b (by omega)
      obtain ⟨c0, hc0, hfit⟩ := o3 hb
      have hlt : (fcS S LF (b + 1)).1 < 4096 := by rw [fcS_s1]; exact first_lt hc0 hfit
      have hyes : fit S LF b (fcS S LF b).1 (fcS S LF b).2 (fcS S LF (b + 1)).1 = true := fst_yes (fcS_s1 b) hlt
      have hno : ∀ i, i < (fcS S LF (b + 1)).1 → fit S LF b (fcS S LF b).1 (fcS S LF b).2 i = false := fun i hi => fst_no (fcS_s1 b) hi
      have e2 := fcS_s2 (S := S) (LF := LF) b
      have hleft : (fcS S LF b).2 ≤ 1000000 := by
        by_cases q : b = 0
        · rw [q, fcS_02]; omega
        · have := (o2 (by omega)).1; omega
      rw [e2] at ih
      generalize hc1 : (fcS S LF (b + 1)).1 = c1 at *
      generalize (fcS S LF b).1 = had at *
      generalize (fcS S LF b).2 = left at *
      simp (disch := omega) only [b_Mo_findFirst_9, b_Mo_findFirst_15, ↓reduceIte, nadd, nmul, nsub, nlt, neq, ncl, nvi, ndiv, nrem, exI, exJ, exV, eq_self, true_and, and_true, true_or, or_true, if_true, if_false, not_true, not_false_eq_true, false_and, and_false, decide_true, decide_false, bi_T, bi_F, bi_0, bi_1, bi_z, bft, n10, n01, Nat.reduceEqDiff, Nat.reduceLT, Nat.reduceAdd, Nat.reduceMul, reduceCtorEq, hb]
      -- the row of holders
      have rows : ∀ f, f ≤ 6 → ∀ I3 J3, Xd I I3 → Xj J J3 → I3 89 36 = I 89 36 → I3 89 44 = I 89 44 → I3 89 45 = I 89 45 → I3 105 = I 105 → (∀ b2, b2 < b → ∀ f, f < 6 → I3 112 (6 * b2 + f) = nI (dg 6 (fcS S LF (b2 + 1)).1 f)) → (∀ f2, f2 < f → I3 112 (6 * b + f2) = nI (dg 6 c1 f2)) → a_wp aTab aMX (d + 5) m_Mo_findFirst 99 [.ref 89, .int (nI (cst S LF b c1)), .int (nI c1), .int (nI b), .int (nI c1), .int (nI f)] [] (g, I3, J3) Q := by
        refine dn ?_ ?_
        · intro I3 J3 r1 r2 r3 r4 r5 r6 r7 r8
          simp (disch := omega) only [b_Mo_findFirst_99, b_Mo_findFirst_131, ↓reduceIte, nadd, nmul, nsub, nlt, neq, ncl, nvi, ndiv, nrem, exI, exJ, exV, eq_self, true_and, and_true, true_or, or_true, if_true, if_false, not_true, not_false_eq_true, false_and, and_false, decide_true, decide_false, bi_T, bi_F, bi_0, bi_1, bi_z, bft, n10, n01, Nat.reduceEqDiff, Nat.reduceLT, Nat.reduceAdd, Nat.reduceMul, reduceCtorEq, Nat.lt_irrefl]
          refine ih I3 J3 r1 r2 r3 r4 r5 r6 ?_ _ _
          intro b2 hb2 f hf
          by_cases q : b2 = b
          · rw [q, r8 f hf, hc1]
          · exact r7 b2 (by omega) f hf
        · intro f hf ihf I3 J3 r1 r2 r3 r4 r5 r6 r7 r8
          rw [b_Mo_findFirst_99]
          simp (disch := omega) only [b_Mo_findFirst_106 hg, b_Mo_findFirst_124 hg, ↓reduceIte, nadd, nmul, nsub, nlt, neq, ncl, nvi, ndiv, nrem, exI, exJ, exV, eq_self, true_and, and_true, true_or, or_true, if_true, if_false, not_true, not_false_eq_true, false_and, and_false, decide_true, decide_false, bi_T, bi_F, bi_0, bi_1, bi_z, bft, n10, n01, Nat.reduceEqDiff, Nat.reduceLT, Nat.reduceAdd, Nat.reduceMul, reduceCtorEq, hf, c_holderIn]
          refine ihf _ _ (Xd_u (by omega) r1) r2 ?_ ?_ ?_ ?_ ?_ ?_
          · rw [u2_a (by decide)]; exact r3
          · rw [u2_a (by decide)]; exact r4
          · rw [u2_a (by decide)]; exact r5
          · rw [u2_r (by decide)]; exact r6
          · intro b2 hb2 f2 hf2
            rw [u2_k (by omega)]
            exact r7 b2 hb2 f2 hf2
          · intro f2 hf2
            by_cases q : f2 = f
            · rw [q, u2_s]
            · rw [u2_k (by omega)]
              exact r8 f2 (by omega)
      have look : ∀ k, k ≤ c1 → ∀ I3 J3, Xd I I3 → Xj J J3 → I3 89 36 = I 89 36 → I3 89 44 = I 89 44 → I3 89 45 = I 89 45 → I3 105 = I 105 → (∀ b2, b2 < b → ∀ f, f < 6 → I3 112 (6 * b2 + f) = nI (dg 6 (fcS S LF (b2 + 1)).1 f)) → ∀ v5, a_wp aTab aMX (d + 5) m_Mo_findFirst 18 [.ref 89, .int (nI left), .int (nI had), .int (nI b), .int (nI k), v5] [] (g, I3, J3) Q := by
        have test : ∀ k, k < 4096 → ∀ I3 J3, Xd I I3 → Xj J J3 → I3 89 36 = I 89 36 → I3 89 44 = I 89 44 → I3 89 45 = I 89 45 → I3 105 = I 105 → (∀ b2, b2 < b → ∀ f, f < 6 → I3 112 (6 * b2 + f) = nI (dg 6 (fcS S LF (b2 + 1)).1 f)) → (fit S LF b had left k = true → ∀ I4 J4, Xt I3 I4 → Xj J3 J4 → ∀ v1 v2 v5, a_wp aTab aMX (d + 5) m_Mo_findFirst 79 [.ref 89, v1, v2, .int (nI b), .int (nI k), v5] [] (g, I4, J4) Q) → (fit S LF b had left k = false → ∀ I4 J4, Xt I3 I4 → Xj J3 J4 → ∀ v5, a_wp aTab aMX (d + 5) m_Mo_findFirst 73 [.ref 89, .int (nI left), .int (nI had), .int (nI b), .int (nI k), v5] [] (g, I4, J4) Q) → ∀ v5, a_wp aTab aMX (d + 5) m_Mo_findFirst 18 [.ref 89, .int (nI left), .int (nI had), .int (nI b), .int (nI k), v5] [] (g, I3, J3) Q := by
          intro k hk I3 J3 r1 r2 r3 r4 r5 r6 r7 hy hn v5
          have e91 : I3 91 = I 91 := Xd_r r1 (by decide) (by decide)
          have ec : I3 105 (4096 * b + k) = nI (cst S LF b k) := by rw [r6]; exact (hA b hb k hk).1
          have cb := cst_b (S := S) (LF := LF) (b := b) hk
          have pb := pbt_b (S := S) (LF := LF) (b := b - 1) (c := had) (e := k)
          have fi := fit_iff (S := S) (LF := LF) (b := b) (had := had) (left := left) (c := k)
          by_cases q1 : cst S LF b k = 1000000
          · simp (disch := omega) only [b_Mo_findFirst_18 hg, ↓reduceIte, nadd, nmul, nsub, nlt, neq, ncl, nvi, ndiv, nrem, exI, exJ, exV, eq_self, true_and, and_true, true_or, or_true, if_true, if_false, not_true, not_false_eq_true, false_and, and_false, decide_true, decide_false, bi_T, bi_F, bi_0, bi_1, bi_z, bft, n10, n01, Nat.reduceEqDiff, Nat.reduceLT, Nat.reduceAdd, Nat.reduceMul, reduceCtorEq, ec, q1]
            exact hn (Bool.eq_false_iff.2 (fun z => (fi.1 z).1 q1)) I3 J3 Xt_rf Xj_rf _
          by_cases q0 : b = 0
          · rw [if_pos q0] at fi
            simp (disch := omega) only [b_Mo_findFirst_18 hg, b_Mo_findFirst_37 hg, ↓reduceIte, nadd, nmul, nsub, nlt, neq, ncl, nvi, ndiv, nrem, exI, exJ, exV, eq_self, true_and, and_true, true_or, or_true, if_true, if_false, not_true, not_false_eq_true, false_and, and_false, decide_true, decide_false, bi_T, bi_F, bi_0, bi_1, bi_z, bft, n10, n01, Nat.reduceEqDiff, Nat.reduceLT, Nat.reduceAdd, Nat.reduceMul, reduceCtorEq, ec, q1]
            rw [if_pos q0]
            simp (disch := omega) only [b_Mo_findFirst_54, b_Mo_findFirst_68, ↓reduceIte, nadd, nmul, nsub, nlt, neq, ncl, nvi, ndiv, nrem, exI, exJ, exV, eq_self, true_and, and_true, true_or, or_true, if_true, if_false, not_true, not_false_eq_true, false_and, and_false, decide_true, decide_false, bi_T, bi_F, bi_0, bi_1, bi_z, bft, n10, n01, Nat.reduceEqDiff, Nat.reduceLT, Nat.reduceAdd, Nat.reduceMul, reduceCtorEq]
            by_cases q2 : cst S LF b k + 0 = left
            · rw [if_pos q2]
              exact hy (fi.2 ⟨q1, q2⟩) I3 J3 Xt_rf Xj_rf _ _ _
            · rw [if_neg q2]
              exact hn (Bool.eq_false_iff.2 (fun z => q2 (fi.1 z).2)) I3 J3 Xt_rf Xj_rf _
          · rw [if_neg q0] at fi
            simp (disch := omega) only [b_Mo_findFirst_18 hg, b_Mo_findFirst_37 hg, ↓reduceIte, nadd, nmul, nsub, nlt, neq, ncl, nvi, ndiv, nrem, exI, exJ, exV, eq_self, true_and, and_true, true_or, or_true, if_true, if_false, not_true, not_false_eq_true, false_and, and_false, decide_true, decide_false, bi_T, bi_F, bi_0, bi_1, bi_z, bft, n10, n01, Nat.reduceEqDiff, Nat.reduceLT, Nat.reduceAdd, Nat.reduceMul, reduceCtorEq, ec, q1]
            rw [if_neg q0]
            simp (disch := omega) only [b_Mo_findFirst_58 hg, ↓reduceIte, nadd, nmul, nsub, nlt, neq, ncl, nvi, ndiv, nrem, exI, exJ, exV, eq_self, true_and, and_true, true_or, or_true, if_true, if_false, not_true, not_false_eq_true, false_and, and_false, decide_true, decide_false, bi_T, bi_F, bi_0, bi_1, bi_z, bft, n10, n01, Nat.reduceEqDiff, Nat.reduceLT, Nat.reduceAdd, Nat.reduceMul, reduceCtorEq]
            refine c_passedBetween hg hB (by rw [e91]; exact hM) (by rw [e91]; exact hL) (by omega) o1 hk ?_
            intro I4 J4 s1 s2
            refine ⟨_, rfl, ?_⟩
            simp (disch := omega) only [b_Mo_findFirst_68, ↓reduceIte, nadd, nmul, nsub, nlt, neq, ncl, nvi, ndiv, nrem, exI, exJ, exV, eq_self, true_and, and_true, true_or, or_true, if_true, if_false, not_true, not_false_eq_true, false_and, and_false, decide_true, decide_false, bi_T, bi_F, bi_0, bi_1, bi_z, bft, n10, n01, Nat.reduceEqDiff, Nat.reduceLT, Nat.reduceAdd, Nat.reduceMul, reduceCtorEq]
            by_cases q2 : cst S LF b k + pbt S LF (b - 1) had k = left
            · rw [if_pos q2]
              exact hy (fi.2 ⟨q1, q2⟩) I4 J4 s1 s2 _ _ _
            · rw [if_neg q2]
              exact hn (Bool.eq_false_iff.2 (fun z => q2 (fi.1 z).2)) I4 J4 s1 s2 _
        have nx : ∀ I3 I4 : Nat → Nat → Int32, Xd I I3 → I3 89 36 = I 89 36 → I3 89 44 = I 89 44 → I3 89 45 = I 89 45 → I3 105 = I 105 → Xt I3 I4 → Xd I I4 ∧ I4 89 36 = I 89 36 ∧ I4 89 44 = I 89 44 ∧ I4 89 45 = I 89 45 ∧ I4 105 = I 105 := fun I3 I4 r1 r3 r4 r5 r6 s => ⟨Xd_tr r1 (Xd_t s), (s 89 36 (by omega)).trans r3, (s 89 44 (by omega)).trans r4, (s 89 45 (by omega)).trans r5, (Xt_r s (by decide)).trans r6⟩
        refine dn ?_ ?_
        · intro I3 J3 r1 r2 r3 r4 r5 r6 r7 v5
          refine test c1 hlt I3 J3 r1 r2 r3 r4 r5 r6 r7 (fun _ => ?_) (fun z => by rw [hyes] at z; cases z) v5
          intro I4 J4 s1 s2 v1 v2 v5
          obtain ⟨t1, t3, t4, t5, t6⟩ := nx I3 I4 r1 r3 r4 r5 r6 s1
          have ec : I4 105 (4096 * b + c1) = nI (cst S LF b c1) := by rw [t6]; exact (hA b hb c1 hlt).1
          rw [b_Mo_findFirst_79 hg]
          simp (disch := omega) only [↓reduceIte, nadd, nmul, nsub, nlt, neq, ncl, nvi, ndiv, nrem, exI, exJ, exV, eq_self, true_and, and_true, true_or, or_true, if_true, if_false, not_true, not_false_eq_true, false_and, and_false, decide_true, decide_false, bi_T, bi_F, bi_0, bi_1, bi_z, bft, n10, n01, Nat.reduceEqDiff, Nat.reduceLT, Nat.reduceAdd, Nat.reduceMul, reduceCtorEq, ec]
          refine rows 0 (by omega) I4 J4 t1 (Xj_tr r2 s2) t3 t4 t5 t6 ?_ (fun f2 hf2 => absurd hf2 (by omega))
          intro b2 hb2 f hf
          rw [Xt_r s1 (by decide)]
          exact r7 b2 hb2 f hf
        · intro k hk ihk I3 J3 r1 r2 r3 r4 r5 r6 r7 v5
          refine test k (by omega) I3 J3 r1 r2 r3 r4 r5 r6 r7 (fun z => by rw [hno k hk] at z; cases z) (fun _ => ?_) v5
          intro I4 J4 s1 s2 v5
          obtain ⟨t1, t3, t4, t5, t6⟩ := nx I3 I4 r1 r3 r4 r5 r6 s1
          rw [b_Mo_findFirst_73, nadd]
          refine ihk I4 J4 t1 (Xj_tr r2 s2) t3 t4 t5 t6 ?_ _
          intro b2 hb2 f hf
          rw [Xt_r s1 (by decide)]
          exact r7 b2 hb2 f hf
      exact look 0 (by omega) I2 J2 g1 g2 g3 g4 g5 g6 g7 _
  have := key 0 (by omega) I J Xd_rf Xj_rf rfl rfl rfl rfl (fun b2 hb2 => absurd hb2 (by omega))
  rw [fcS_01, fcS_02] at this
  exact this _ _
theorem c_mFindLeast (hg : Geo g) (hB : SB S) (hM : MS S T (I 91)) {sc : Nat → Nat → Int32} (hL : LJ LF sc (I 91)) (hC : RC S LF I) (hQ : ∀ I' J', Xe I I' → Xj J J' → I' 89 36 = nI 1 → LR S LF I' → Q none (g, I', J')) : a_call aTab aMX (d + 9) m_Mo_findLeast [.ref 89] (g, I, J) Q := by
  rw [e_Mo_findLeast, b_Mo_findLeast_0 hg]
  rcases hC with h0 | ⟨h1, h2⟩
  rotate_left
  · rw [h1]
    simp (disch := omega) only [b_Mo_findLeast_7, ↓reduceIte, nadd, nmul, nsub, nlt, neq, ncl, nvi, ndiv, nrem, exI, exJ, exV, eq_self, true_and, and_true, true_or, or_true, if_true, if_false, not_true, not_false_eq_true, false_and, and_false, decide_true, decide_false, bi_T, bi_F, bi_0, bi_1, bi_z, bft, n10, n01, Nat.reduceEqDiff, Nat.reduceLT, Nat.reduceAdd, Nat.reduceMul, reduceCtorEq]
    exact hQ I J Xe_rf Xj_rf h1 h2
  rw [h0]
  simp (disch := omega) only [b_Mo_findLeast_8 hg, ↓reduceIte, nadd, nmul, nsub, nlt, neq, ncl, nvi, ndiv, nrem, exI, exJ, exV, eq_self, true_and, and_true, true_or, or_true, if_true, if_false, not_true, not_false_eq_true, false_and, and_false, decide_true, decide_false, bi_T, bi_F, bi_0, bi_1, bi_z, bft, n10, n01, Nat.reduceEqDiff, Nat.reduceLT, Nat.reduceAdd, Nat.reduceMul, reduceCtorEq]
  have em : ∀ c : Nat, nI c + (-1 : Int32) = nI c - nI 1 := fun c => by rw [Int32.sub_eq_add_neg]; rfl
  have lb := lsF_b (dpS_b (S := S) (LF := LF) 12 (Nat.le_refl _))
  -- the sum
  have loop2 : ∀ k, k ≤ 4096 → ∀ I2 J2, Xe I I2 → Xj J J2 → I2 89 36 = nI 1 → (∀ b, b < 12 → mA (dpS S LF (12 - b)) (fun c => 4096 * b + c) I2 105 106) → I2 89 44 = nI (lsF (dpS S LF 12) k).1 → a_wp aTab aMX (d + 8) m_Mo_findLeast 42 [.ref 89, .long (lN (lsF (dpS S LF 12) k).2), aU, .int (nI k)] [] (g, I2, J2) Q := by
    refine dn ?_ ?_
    · intro I2 J2 g1 g2 g3 g4 g5
      have h := lb 4096 (Nat.le_refl _)
      have e1 : lcS S LF = (lsF (dpS S LF 12) 4096).1 := by unfold lcS; rfl
      have e2 : lwS S LF = min 1000000000 (lsF (dpS S LF 12) 4096).2 := by unfold lwS; rfl
      generalize lsF (dpS S LF 12) 4096 = m at *
      have fin : ∀ x : Nat, x = lwS S LF → ∀ v1 v3, a_wp aTab aMX (d + 8) m_Mo_findLeast 158 [.ref 89, v1, aU, v3] [.int (nI x), .ref 89] (g, I2, J2) Q := by
        intro x hx v1 v3
        have f1 : Xe I (u2 I2 89 45 (nI x)) := Xe_f (by omega) g1
        have e44 : u2 I2 89 45 (nI x) 89 44 = nI (lcS S LF) := by rw [u2_k (by decide), g5, e1]
        have e36 : u2 I2 89 45 (nI x) 89 36 = nI 1 := by rw [u2_k (by decide)]; exact g3
        have e45 : u2 I2 89 45 (nI x) 89 45 = nI (lwS S LF) := by rw [u2_s, hx]
        have lc := lcS_b (S := S) (LF := LF)
        obtain ⟨L, hLc⟩ : ∃ L, L = lcS S LF := ⟨_, rfl⟩
        rw [← hLc] at lc
        by_cases q : L < 1000000
        · rw [b_Mo_findLeast_158 hg, e44, ← hLc]
          simp (disch := omega) only [b_Mo_findLeast_171 hg, ↓reduceIte, nadd, nmul, nsub, nlt, neq, ncl, nvi, ndiv, nrem, exI, exJ, exV, eq_self, true_and, and_true, true_or, or_true, if_true, if_false, not_true, not_false_eq_true, false_and, and_false, decide_true, decide_false, bi_T, bi_F, bi_0, bi_1, bi_z, bft, n10, n01, Nat.reduceEqDiff, Nat.reduceLT, Nat.reduceAdd, Nat.reduceMul, reduceCtorEq, q]
          have e91 : u2 I2 89 45 (nI x) 91 = I 91 := Xe_r f1 (by decide) (by decide)
          refine c_findFirst hg hB (by rw [e91]; exact hM) (by rw [e91]; exact hL) (by rw [← hLc]; exact q) ?_ e44 ?_
          · intro b hb c hc
            rw [u2_a (by decide), u2_a (by decide)]
            exact g4 b hb c hc
          · intro I3 J3 r1 r2 r3 r4 r5 r6
            refine ⟨rfl, ?_⟩
            rw [b_Mo_findLeast_175]
            exact hQ I3 J3 (Xe_tr f1 (Xe_d r1)) (Xj_tr g2 r2) (r3.trans e36) ⟨r4.trans e44, r5.trans e45, fun _ => r6⟩
        · rw [b_Mo_findLeast_158 hg, e44, ← hLc]
          simp (disch := omega) only [b_Mo_findLeast_175, ↓reduceIte, nadd, nmul, nsub, nlt, neq, ncl, nvi, ndiv, nrem, exI, exJ, exV, eq_self, true_and, and_true, true_or, or_true, if_true, if_false, not_true, not_false_eq_true, false_and, and_false, decide_true, decide_false, bi_T, bi_F, bi_0, bi_1, bi_z, bft, n10, n01, Nat.reduceEqDiff, Nat.reduceLT, Nat.reduceAdd, Nat.reduceMul, reduceCtorEq, q]
          exact hQ _ J2 f1 g2 e36 ⟨e44, e45, fun z => absurd (by rw [hLc]; exact z) q⟩
      simp (disch := omega) only [b_Mo_findLeast_42, ↓reduceIte, nadd, nmul, nsub, nlt, neq, ncl, nvi, ndiv, nrem, exI, exJ, exV, eq_self, true_and, and_true, true_or, or_true, if_true, if_false, not_true, not_false_eq_true, false_and, and_false, decide_true, decide_false, bi_T, bi_F, bi_0, bi_1, bi_z, bft, n10, n01, Nat.reduceEqDiff, Nat.reduceLT, Nat.reduceAdd, Nat.reduceMul, reduceCtorEq, Nat.lt_irrefl]
      rw [b_Mo_findLeast_141]
      by_cases q : 1000000000 < m.2
      · rw [if_pos ((pk_lLT (by omega) (by omega)).2 q), b_Mo_findLeast_150]
        exact fin _ (by omega) _ _
      · rw [if_neg (fun z => q ((pk_lLT (by omega) (by omega)).1 z)), b_Mo_findLeast_156, lN_i]
        exact fin _ (by omega) _ _
    · intro k hk ih I2 J2 g1 g2 g3 g4 g5
      have h := lb k (by omega)
      have hD := dpS_b (S := S) (LF := LF) 12 (Nat.le_refl _) k hk
      have a5 : I2 105 k = nI (dpS S LF 12 k).1 := by have := (g4 0 (by decide) k hk).1; simp only [Nat.mul_zero, Nat.zero_add, Nat.sub_zero] at this; exact this
      have a6 : I2 106 k = nI (dpS S LF 12 k).2 := by have := (g4 0 (by decide) k hk).2; simp only [Nat.mul_zero, Nat.zero_add, Nat.sub_zero] at this; exact this
      have es : lsF (dpS S LF 12) (k + 1) = ((if (dpS S LF 12 k).1 < (lsF (dpS S LF 12) k).1 then (dpS S LF 12 k).1 else (lsF (dpS S LF 12) k).1), (if (dpS S LF 12 k).1 < (lsF (dpS S LF 12) k).1 then 0 else (lsF (dpS S LF 12) k).2) + (if (dpS S LF 12 k).1 = (if (dpS S LF 12 k).1 < (lsF (dpS S LF 12) k).1 then (dpS S LF 12 k).1 else (lsF (dpS S LF 12) k).1) ∧ (if (dpS S LF 12 k).1 < (lsF (dpS S LF 12) k).1 then (dpS S LF 12 k).1 else (lsF (dpS S LF 12) k).1) < 1000000 then (dpS S LF 12 k).2 else 0)) := by simp only [lsF]
      rw [es] at ih
      generalize lsF (dpS S LF 12) k = m at *
      generalize dpS S LF 12 k = x at *
      have put : ∀ (y z : Nat) (I3 : Nat → Nat → Int32), I3 = u2 I2 89 44 (nI y) → y = (if x.1 < m.1 then x.1 else m.1) → a_wp aTab aMX (d + 8) m_Mo_findLeast 42 [.ref 89, .long (lN ((if x.1 < m.1 then 0 else m.2) + (if x.1 = (if x.1 < m.1 then x.1 else m.1) ∧ (if x.1 < m.1 then x.1 else m.1) < 1000000 then x.2 else 0))), aU, .int (nI (k + 1))] [] (g, I3, J2) Q := by
        intro y z I3 e3 ey
        rw [e3]
        refine ih _ J2 (Xe_f (by omega) g1) g2 ?_ ?_ ?_
        · rw [u2_k (by decide)]; exact g3
        · intro b hb c hc
          rw [u2_a (by decide), u2_a (by decide)]
          exact g4 b hb c hc
        · rw [u2_s, ey]
      rw [b_Mo_findLeast_42]
      by_cases q1 : x.1 < m.1
      · simp only [q1, if_true] at put
        have b5 : u2 I2 89 44 (nI x.1) 105 k = nI x.1 := by rw [u2_a (by decide)]; exact a5
        have b6 : u2 I2 89 44 (nI x.1) 106 k = nI x.2 := by rw [u2_a (by decide)]; exact a6
        by_cases q2 : x.1 < 1000000
        · have put := put x.1 0 _ rfl rfl
          simp only [q2, and_self, if_true] at put
          simp (disch := omega) only [b_Mo_findLeast_49 hg, b_Mo_findLeast_62, b_Mo_findLeast_67 hg, b_Mo_findLeast_82 hg, b_Mo_findLeast_95 hg, b_Mo_findLeast_112 hg, b_Mo_findLeast_122 hg, b_Mo_findLeast_133, ↓reduceIte, nadd, nmul, nsub, nlt, neq, ncl, nvi, ndiv, nrem, exI, exJ, exV, eq_self, true_and, and_true, true_or, or_true, if_true, if_false, not_true, not_false_eq_true, false_and, and_false, decide_true, decide_false, bi_T, bi_F, bi_0, bi_1, bi_z, bft, n10, n01, Nat.reduceEqDiff, Nat.reduceLT, Nat.reduceAdd, Nat.reduceMul, reduceCtorEq, hk, a5, g5, q1, q2, u2_s, b5, b6, nI_l, lN_add]
          exact put
        · have put := put x.1 0 _ rfl rfl
          simp only [q2, and_false, if_false] at put
          simp (disch := omega) only [b_Mo_findLeast_49 hg, b_Mo_findLeast_62, b_Mo_findLeast_67 hg, b_Mo_findLeast_82 hg, b_Mo_findLeast_95 hg, b_Mo_findLeast_112 hg, b_Mo_findLeast_132, b_Mo_findLeast_133, ↓reduceIte, nadd, nmul, nsub, nlt, neq, ncl, nvi, ndiv, nrem, exI, exJ, exV, eq_self, true_and, and_true, true_or, or_true, if_true, if_false, not_true, not_false_eq_true, false_and, and_false, decide_true, decide_false, bi_T, bi_F, bi_0, bi_1, bi_z, bft, n10, n01, Nat.reduceEqDiff, Nat.reduceLT, Nat.reduceAdd, Nat.reduceMul, reduceCtorEq, hk, a5, g5, q1, q2, u2_s, b5, b6, lN_add]
          exact put
      · simp only [q1, if_false] at put
        have b5 : u2 I2 89 44 (nI m.1) 105 k = nI x.1 := by rw [u2_a (by decide)]; exact a5
        have b6 : u2 I2 89 44 (nI m.1) 106 k = nI x.2 := by rw [u2_a (by decide)]; exact a6
        have put := put m.1 0 _ rfl rfl
        by_cases q2 : x.1 = m.1
        · by_cases q3 : m.1 < 1000000
          · have qq : (x.1 = m.1) = True := eq_true q2
            simp only [qq, q3, and_self, if_true] at put
            simp (disch := omega) only [b_Mo_findLeast_49 hg, b_Mo_findLeast_66, b_Mo_findLeast_67 hg, b_Mo_findLeast_91 hg, b_Mo_findLeast_95 hg, b_Mo_findLeast_112 hg, b_Mo_findLeast_122 hg, b_Mo_findLeast_133, ↓reduceIte, nadd, nmul, nsub, nlt, neq, ncl, nvi, ndiv, nrem, exI, exJ, exV, eq_self, true_and, and_true, true_or, or_true, if_true, if_false, not_true, not_false_eq_true, false_and, and_false, decide_true, decide_false, bi_T, bi_F, bi_0, bi_1, bi_z, bft, n10, n01, Nat.reduceEqDiff, Nat.reduceLT, Nat.reduceAdd, Nat.reduceMul, reduceCtorEq, hk, a5, g5, q1, qq, q3, u2_s, b5, b6, nI_l, lN_add]
            exact put
          · have qq : (x.1 = m.1) = True := eq_true q2
            simp only [qq, q3, and_false, if_false] at put
            simp (disch := omega) only [b_Mo_findLeast_49 hg, b_Mo_findLeast_66, b_Mo_findLeast_67 hg, b_Mo_findLeast_91 hg, b_Mo_findLeast_95 hg, b_Mo_findLeast_112 hg, b_Mo_findLeast_132, b_Mo_findLeast_133, ↓reduceIte, nadd, nmul, nsub, nlt, neq, ncl, nvi, ndiv, nrem, exI, exJ, exV, eq_self, true_and, and_true, true_or, or_true, if_true, if_false, not_true, not_false_eq_true, false_and, and_false, decide_true, decide_false, bi_T, bi_F, bi_0, bi_1, bi_z, bft, n10, n01, Nat.reduceEqDiff, Nat.reduceLT, Nat.reduceAdd, Nat.reduceMul, reduceCtorEq, hk, a5, g5, q1, qq, q3, u2_s, b5, b6, lN_add]
            exact put
        · simp only [q2, false_and, if_false] at put
          simp (disch := omega) only [b_Mo_findLeast_49 hg, b_Mo_findLeast_66, b_Mo_findLeast_67 hg, b_Mo_findLeast_91 hg, b_Mo_findLeast_95 hg, b_Mo_findLeast_132, b_Mo_findLeast_133, ↓reduceIte, nadd, nmul, nsub, nlt, neq, ncl, nvi, ndiv, nrem, exI, exJ, exV, eq_self, true_and, and_true, true_or, or_true, if_true, if_false, not_true, not_false_eq_true, false_and, and_false, decide_true, decide_false, bi_T, bi_F, bi_0, bi_1, bi_z, bft, n10, n01, Nat.reduceEqDiff, Nat.reduceLT, Nat.reduceAdd, Nat.reduceMul, reduceCtorEq, hk, a5, g5, q1, q2, u2_s, b5, b6, lN_add]
          exact put
  -- the beats
  have loop1 : ∀ k, k ≤ 12 → ∀ I2 J2, Xe I I2 → Xj J J2 → I2 89 36 = nI 1 → (∀ b, k ≤ b → b < 12 → mA (dpS S LF (12 - b)) (fun c => 4096 * b + c) I2 105 106) → a_wp aTab aMX (d + 8) m_Mo_findLeast 16 [.ref 89, .int (nI k - nI 1), aU, aU] [] (g, I2, J2) Q := by
    intro k
    induction k with
    | zero =>
      intro _ I2 J2 g1 g2 g3 g4
      rw [b_Mo_findLeast_16, if_pos (show nI 0 - nI 1 < nI 0 by decide), b_Mo_findLeast_31 hg]
      refine loop2 0 (by omega) _ J2 (Xe_f (by omega) g1) g2 ?_ ?_ u2_s
      · rw [u2_k (by decide)]; exact g3
      · intro b hb c hc
        rw [u2_a (by decide), u2_a (by decide)]
        exact g4 b (by omega) hb c hc
    | succ k ih =>
      intro hk I2 J2 g1 g2 g3 g4
      have e91 : I2 91 = I 91 := Xe_r g1 (by decide) (by decide)
      rw [b_Mo_findLeast_16, nsub (by omega), Nat.add_sub_cancel]
      simp (disch := omega) only [b_Mo_findLeast_20 hg, ↓reduceIte, nadd, nmul, nsub, nlt, neq, ncl, nvi, ndiv, nrem, exI, exJ, exV, eq_self, true_and, and_true, true_or, or_true, if_true, if_false, not_true, not_false_eq_true, false_and, and_false, decide_true, decide_false, bi_T, bi_F, bi_0, bi_1, bi_z, bft, n10, n01, Nat.reduceEqDiff, Nat.reduceLT, Nat.reduceAdd, Nat.reduceMul, reduceCtorEq, Nat.not_lt_zero]
      refine c_reckonBeat hg hB (by rw [e91]; exact hM) (by rw [e91]; exact hL) (by omega) (fun hk11 => ?_) ?_
      · have := g4 (k + 1) (by omega) (by omega)
        rw [show 12 - (k + 1) = 11 - k by omega] at this
        exact this
      · intro I3 J3 r1 r2 r3 r4
        refine ⟨rfl, ?_⟩
        rw [b_Mo_findLeast_25, em]
        refine ih (by omega) I3 J3 (Xe_tr g1 (Xe_d r1)) (Xj_tr g2 r2) ?_ ?_
        · rw [r1 89 36 (by omega) (by omega)]; exact g3
        · intro b hb hb12
          by_cases q : b = k
          · rw [q]; exact r3
          · intro c hc
            show I3 105 (4096 * b + c) = _ ∧ I3 106 (4096 * b + c) = _
            rw [(r4 (4096 * b + c) (by omega)).1, (r4 (4096 * b + c) (by omega)).2]
            exact g4 b (by omega) hb12 c hc
  refine loop1 12 (Nat.le_refl _) _ J (Xe_f (by omega) Xe_rf) Xj_rf u2_s (fun b hb hb12 => absurd hb (by omega))
end MD
