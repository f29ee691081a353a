/-! ===== shadows ===== -/
def prj (c e l : Nat) : Nat := (2 * c + 1) * e / (2 * l)
def lit (S : Nat → Nat → Nat) (f b r c : Nat) : Bool := decide (S 12 (f * 12 + b) ≤ prj r (mDp S f b) (S 10 0) ∧ prj r (mDp S f b) (S 10 0) < S 12 (f * 12 + b) + 8 ∧ S 11 (f * 12 + b) ≤ prj c (mDp S f b) (S 10 0) ∧ prj c (mDp S f b) (S 10 0) < S 11 (f * 12 + b) + 8 ∧ (S 8 (f * 8 + (prj r (mDp S f b) (S 10 0) - S 12 (f * 12 + b)))).testBit (prj c (mDp S f b) (S 10 0) - S 11 (f * 12 + b)) = true)
def shr (S : Nat → Nat → Nat) (f b r : Nat) : Nat → Nat
  | 0 => 0
  | k + 1 => if lit S f b r k then shr S f b r k ||| 1 <<< k else shr S f b r k
def shR (S : Nat → Nat → Nat) (f b r : Nat) : Nat := if sOn S f b then shr S f b r 32 else 0
theorem shr_0 {S : Nat → Nat → Nat} {f b r : Nat} (h : ∀ c, lit S f b r c = false) : ∀ k, shr S f b r k = 0
  | 0 => rfl
  | k + 1 => by
    unfold shr
    rw [h k, if_neg (by decide)]
    exact shr_0 h k
theorem prj_le {c e l : Nat} (hc : c < 32) (he : e ≤ 32) : (2 * c + 1) * e ≤ 2016 := (Nat.mul_le_mul (show 2 * c + 1 ≤ 63 by omega) he : (2 * c + 1) * e ≤ 63 * 32)
theorem prj_lt {c e l : Nat} (hc : c < 32) (he : e ≤ 32) : prj c e l ≤ 2016 := Nat.le_trans (Nat.div_le_self _ _) (prj_le (l := l) hc he)
theorem sDp_on {S : Nat → Nat → Nat} {f b : Nat} (h : sOn S f b = true) : sDp S f b = mDp S f b := by
  unfold sDp mDp
  rw [if_pos h]
theorem mDp_le {S : Nat → Nat → Nat} (hB : SB S) (f b : Nat) : mDp S f b ≤ 32 := Nat.le_trans (Nat.min_le_left _ _) (sb13 hB _)
theorem sDp_le {S : Nat → Nat → Nat} (hB : SB S) (f b : Nat) : sDp S f b ≤ 32 := by
  unfold sDp
  split
  · exact mDp_le hB f b
  · omega
theorem subneg {a b : Nat} (hb : b < 1073741824) (h : a < b) : (nI a - nI b < nI 0) = True := eq_true (by rw [show nI 0 = (0 : Int32) from rfl]; exact pk_sneg hb h)
section LI
variable {d : Nat} {g : aG} {I : Nat → Nat → Int32} {J : Nat → Nat → Int64} {Q : aQ} {S : Nat → Nat → Nat}
theorem c_project {c e l : Nat} (hc : c < 32) (he : e ≤ 32) (hl : 1 ≤ l) (hl2 : l ≤ 32) : a_call aTab aMX (d + 1) m_Light_project [.int (nI c), .int (nI e), .int (nI l)] (g, I, J) Q = Q (some (.int (nI (prj c e l)))) (g, I, J) := by
  have h1 := prj_le (l := l) hc he
  have h2 : 1 < 2 * l := by omega
  have h3 : ¬ 2 * l = 0 := by omega
  simp (disch := omega) only [e_Light_project, b_Light_project_0, ↓reduceIte, nadd, nmul, nsub, nlt, neq, ncl, nvi, ndiv, nrem, nand, nor, nxor, nshl, nshr, exI, exJ, exV, eq_self, true_and, and_true, true_or, or_true, if_true, if_false, not_true, not_false_eq_true, false_and, and_false, decide_true, decide_false, bi_T, bi_F, bi_0, bi_1, bi_z, bft, n10, n01, Nat.reduceEqDiff, Nat.reduceLT, Nat.reduceAdd, Nat.reduceMul, reduceCtorEq, h2, h3]
  rfl
theorem c_rowOfX (hg : Geo g) (hS : CS S I) {f b r : Int32} (h : onI I f b = false ∨ r < nI 0 ∨ ¬ r < nI 16) : a_call aTab aMX (d + 2) m_Light_rowOf [.ref 32, .int f, .int b, .int r] (g, I, J) Q = Q (some (.int (nI 0))) (g, I, J) := by
  rw [e_Light_rowOf]
  by_cases h1 : onI I f b = false
  · simp only [b_Light_rowOf_0 hg, b_Light_rowOf_9, b_Light_rowOf_12, b_Light_rowOf_16, b_Light_rowOf_22, c_isOn hg hS, h1, exI, exJ, exV, eq_self, true_and, and_true, true_or, or_true, if_true, if_false, not_true, not_false_eq_true, false_and, and_false, decide_true, decide_false, bi_T, bi_F, bi_0, bi_1, bi_z, bft, n10, n01, Nat.reduceEqDiff, Nat.reduceLT, Nat.reduceAdd, Nat.reduceMul, reduceCtorEq]
  · by_cases h2 : r < nI 0
    · simp only [b_Light_rowOf_0 hg, b_Light_rowOf_9, b_Light_rowOf_12, b_Light_rowOf_16, b_Light_rowOf_22, c_isOn hg hS, h1, h2, exI, exJ, exV, eq_self, true_and, and_true, true_or, or_true, if_true, if_false, not_true, not_false_eq_true, false_and, and_false, decide_true, decide_false, bi_T, bi_F, bi_0, bi_1, bi_z, bft, n10, n01, Nat.reduceEqDiff, Nat.reduceLT, Nat.reduceAdd, Nat.reduceMul, reduceCtorEq]
    · have h3 : ¬ r < nI 16 := by rcases h with h | h | h; exact absurd h h1; exact absurd h h2; exact h
      simp only [b_Light_rowOf_0 hg, b_Light_rowOf_9, b_Light_rowOf_12, b_Light_rowOf_16, b_Light_rowOf_22, c_isOn hg hS, h1, h2, h3, exI, exJ, exV, eq_self, true_and, and_true, true_or, or_true, if_true, if_false, not_true, not_false_eq_true, false_and, and_false, decide_true, decide_false, bi_T, bi_F, bi_0, bi_1, bi_z, bft, n10, n01, Nat.reduceEqDiff, Nat.reduceLT, Nat.reduceAdd, Nat.reduceMul, reduceCtorEq]
theorem c_rowOf (hg : Geo g) (hS : CS S I) {f b r : Nat} (hf : f < 6) (hb : b < 12) (hr : r < 16) : a_call aTab aMX (d + 3) m_Light_rowOf [.ref 32, .int (nI f), .int (nI b), .int (nI r)] (g, I, J) Q = Q (some (.int (nI (shR S f b r)))) (g, I, J) := by
  by_cases ho : sOn S f b = true
  rotate_left
  · rw [c_rowOfX hg hS (Or.inl (by rw [onI_n hS (by omega) hb]; exact Bool.eq_false_iff.2 ho))]
    unfold shR
    rw [if_neg ho]
  have ht := sb10 hS.2
  have hd := mDp_le hS.2 f b
  have hp := prj_lt (l := S 10 0) (show r < 32 by omega) hd
  have hy := sb12 hS.2 (f * 12 + b)
  have hx := sb11 hS.2 (f * 12 + b)
  have e0 : shR S f b r = shr S f b r 32 := by unfold shR; rw [if_pos ho]
  rw [e0, e_Light_rowOf]
  simp (disch := first | omega | exact l13 hS _ | exact l11 hS _ | exact l12 hS _ | exact l10 hS _ | exact l8 hS _ | exact l9 hS _ | exact l7 hS _) only [b_Light_rowOf_0 hg, b_Light_rowOf_9, b_Light_rowOf_12, b_Light_rowOf_16, b_Light_rowOf_24 hg, b_Light_rowOf_41 hg, b_Light_rowOf_62 hg, c_isOnN hg hS, ho, exI, exJ, exV, eq_self, true_and, and_true, true_or, or_true, if_true, if_false, not_true, not_false_eq_true, false_and, and_false, decide_true, decide_false, bi_T, bi_F, bi_0, bi_1, bi_z, bft, n10, n01, Nat.reduceEqDiff, Nat.reduceLT, Nat.reduceAdd, Nat.reduceMul, reduceCtorEq, ↓reduceIte, nadd, nmul, nsub, nlt, neq, ncl, nvi, ndiv, nrem, nand, nor, nxor, nshl, nshr, cs7 hS, cs8 hS, cs9 hS, cs10 hS, cs11 hS, cs12 hS, cs13 hS, hr, Nat.not_lt_zero, c_depth hg hS, sDp_on ho, c_project]
  by_cases h1 : prj r (mDp S f b) (S 10 0) < S 12 (f * 12 + b)
  · simp (disch := omega) only [subneg, h1, exI, exJ, exV, eq_self, true_and, and_true, true_or, or_true, if_true, if_false, not_true, not_false_eq_true, false_and, and_false, decide_true, decide_false, bi_T, bi_F, bi_0, bi_1, bi_z, bft, n10, n01, Nat.reduceEqDiff, Nat.reduceLT, Nat.reduceAdd, Nat.reduceMul, reduceCtorEq, b_Light_rowOf_87]
    rw [shr_0 (fun c => by unfold lit; exact decide_eq_false (fun z => by omega))]
  by_cases h2 : prj r (mDp S f b) (S 10 0) < S 12 (f * 12 + b) + 8
  rotate_left
  · have h3 : ¬ prj r (mDp S f b) (S 10 0) - S 12 (f * 12 + b) < 8 := by omega
    simp (disch := omega) only [↓reduceIte, nadd, nmul, nsub, nlt, neq, ncl, nvi, ndiv, nrem, nand, nor, nxor, nshl, nshr, h3, exI, exJ, exV, eq_self, true_and, and_true, true_or, or_true, if_true, if_false, not_true, not_false_eq_true, false_and, and_false, decide_true, decide_false, bi_T, bi_F, bi_0, bi_1, bi_z, bft, n10, n01, Nat.reduceEqDiff, Nat.reduceLT, Nat.reduceAdd, Nat.reduceMul, reduceCtorEq, Nat.not_lt_zero, b_Light_rowOf_80, b_Light_rowOf_87]
    rw [shr_0 (fun c => by unfold lit; exact decide_eq_false (fun z => by omega))]
  have h3 : prj r (mDp S f b) (S 10 0) - S 12 (f * 12 + b) < 8 := by omega
  simp (disch := first | omega | exact l13 hS _ | exact l11 hS _ | exact l12 hS _ | exact l10 hS _ | exact l8 hS _ | exact l9 hS _ | exact l7 hS _) only [↓reduceIte, nadd, nmul, nsub, nlt, neq, ncl, nvi, ndiv, nrem, nand, nor, nxor, nshl, nshr, h3, exI, exJ, exV, eq_self, true_and, and_true, true_or, or_true, if_true, if_false, not_true, not_false_eq_true, false_and, and_false, decide_true, decide_false, bi_T, bi_F, bi_0, bi_1, bi_z, bft, n10, n01, Nat.reduceEqDiff, Nat.reduceLT, Nat.reduceAdd, Nat.reduceMul, reduceCtorEq, Nat.not_lt_zero, b_Light_rowOf_80, b_Light_rowOf_89 hg, cs7 hS, cs8 hS, cs9 hS, cs10 hS, cs11 hS, cs12 hS, cs13 hS]
  have hl : ∀ c, lit S f b r c = decide (S 11 (f * 12 + b) ≤ prj c (mDp S f b) (S 10 0) ∧ prj c (mDp S f b) (S 10 0) < S 11 (f * 12 + b) + 8 ∧ (S 8 (f * 8 + (prj r (mDp S f b) (S 10 0) - S 12 (f * 12 + b)))).testBit (prj c (mDp S f b) (S 10 0) - S 11 (f * 12 + b)) = true) := by
    intro c
    unfold lit
    congr 1
    apply propext
    constructor
    · exact fun z => z.2.2
    · exact fun z => ⟨by omega, h2, z⟩
  have hc := sb8 hS.2 (f * 8 + (prj r (mDp S f b) (S 10 0) - S 12 (f * 12 + b)))
  generalize S 8 (f * 8 + (prj r (mDp S f b) (S 10 0) - S 12 (f * 12 + b))) = cells at *
  by_cases h4 : cells = 0
  · subst h4
    simp (disch := omega) only [↓reduceIte, nadd, nmul, nsub, nlt, neq, ncl, nvi, ndiv, nrem, nand, nor, nxor, nshl, nshr, exI, exJ, exV, eq_self, true_and, and_true, true_or, or_true, if_true, if_false, not_true, not_false_eq_true, false_and, and_false, decide_true, decide_false, bi_T, bi_F, bi_0, bi_1, bi_z, bft, n10, n01, Nat.reduceEqDiff, Nat.reduceLT, Nat.reduceAdd, Nat.reduceMul, reduceCtorEq, b_Light_rowOf_112, b_Light_rowOf_119, b_Light_rowOf_184]
    rw [shr_0 (fun c => by rw [hl]; exact decide_eq_false (fun z => by rw [Nat.zero_testBit] at z; cases z.2.2))]
  refine dn (P := fun k => ∀ v1 v2 v3 v7 v11, a_wp aTab aMX (d + 2) m_Light_rowOf 112 [.ref 32, v1, v2, v3, .int (nI (f * 12 + b)), .int (nI (mDp S f b)), .int (nI (S 10 0)), v7, .int (nI cells), .int (nI (shr S f b r k)), .int (nI k), v11] [] (g, I, J) Q = Q (some (.int (nI (shr S f b r 32)))) (g, I, J)) (n := 32) ?_ ?_ 0 (by omega) _ _ _ _ _
  · intro v1 v2 v3 v7 v11
    simp (disch := omega) only [↓reduceIte, nadd, nmul, nsub, nlt, neq, ncl, nvi, ndiv, nrem, nand, nor, nxor, nshl, nshr, exI, exJ, exV, eq_self, true_and, and_true, true_or, or_true, if_true, if_false, not_true, not_false_eq_true, false_and, and_false, decide_true, decide_false, bi_T, bi_F, bi_0, bi_1, bi_z, bft, n10, n01, Nat.reduceEqDiff, Nat.reduceLT, Nat.reduceAdd, Nat.reduceMul, reduceCtorEq, b_Light_rowOf_112, b_Light_rowOf_184, Nat.lt_irrefl]
  · intro k hk ih v1 v2 v3 v7 v11
    have hq := prj_lt (l := S 10 0) hk hd
    unfold shr at ih
    rw [hl k] at ih
    simp (disch := first | omega | exact l13 hS _ | exact l11 hS _ | exact l12 hS _ | exact l10 hS _ | exact l8 hS _ | exact l9 hS _ | exact l7 hS _) only [↓reduceIte, nadd, nmul, nsub, nlt, neq, ncl, nvi, ndiv, nrem, nand, nor, nxor, nshl, nshr, exI, exJ, exV, eq_self, true_and, and_true, true_or, or_true, if_true, if_false, not_true, not_false_eq_true, false_and, and_false, decide_true, decide_false, bi_T, bi_F, bi_0, bi_1, bi_z, bft, n10, n01, Nat.reduceEqDiff, Nat.reduceLT, Nat.reduceAdd, Nat.reduceMul, reduceCtorEq, b_Light_rowOf_112, b_Light_rowOf_119, b_Light_rowOf_124, b_Light_rowOf_133 hg, hk, h4, c_project, cs7 hS, cs8 hS, cs9 hS, cs10 hS, cs11 hS, cs12 hS, cs13 hS]
    by_cases h5 : prj k (mDp S f b) (S 10 0) < S 11 (f * 12 + b)
    · have h6 : ¬ S 11 (f * 12 + b) ≤ prj k (mDp S f b) (S 10 0) := by omega
      simp only [h6, exI, exJ, exV, eq_self, true_and, and_true, true_or, or_true, if_true, if_false, not_true, not_false_eq_true, false_and, and_false, decide_true, decide_false, bi_T, bi_F, bi_0, bi_1, bi_z, bft, n10, n01, Nat.reduceEqDiff, Nat.reduceLT, Nat.reduceAdd, Nat.reduceMul, reduceCtorEq] at ih
      simp (disch := omega) only [subneg, ↓reduceIte, nadd, nmul, nsub, nlt, neq, ncl, nvi, ndiv, nrem, nand, nor, nxor, nshl, nshr, exI, exJ, exV, eq_self, true_and, and_true, true_or, or_true, if_true, if_false, not_true, not_false_eq_true, false_and, and_false, decide_true, decide_false, bi_T, bi_F, bi_0, bi_1, bi_z, bft, n10, n01, Nat.reduceEqDiff, Nat.reduceLT, Nat.reduceAdd, Nat.reduceMul, reduceCtorEq, b_Light_rowOf_178]
      exact ih _ _ _ _ _
    by_cases h6 : prj k (mDp S f b) (S 10 0) < S 11 (f * 12 + b) + 8
    rotate_left
    · have h7 : ¬ prj k (mDp S f b) (S 10 0) - S 11 (f * 12 + b) < 8 := by omega
      simp only [h6, exI, exJ, exV, eq_self, true_and, and_true, true_or, or_true, if_true, if_false, not_true, not_false_eq_true, false_and, and_false, decide_true, decide_false, bi_T, bi_F, bi_0, bi_1, bi_z, bft, n10, n01, Nat.reduceEqDiff, Nat.reduceLT, Nat.reduceAdd, Nat.reduceMul, reduceCtorEq] at ih
      simp (disch := omega) only [↓reduceIte, nadd, nmul, nsub, nlt, neq, ncl, nvi, ndiv, nrem, nand, nor, nxor, nshl, nshr, exI, exJ, exV, eq_self, true_and, and_true, true_or, or_true, if_true, if_false, not_true, not_false_eq_true, false_and, and_false, decide_true, decide_false, bi_T, bi_F, bi_0, bi_1, bi_z, bft, n10, n01, Nat.reduceEqDiff, Nat.reduceLT, Nat.reduceAdd, Nat.reduceMul, reduceCtorEq, h7, Nat.not_lt_zero, b_Light_rowOf_151, b_Light_rowOf_178]
      exact ih _ _ _ _ _
    have h7 : prj k (mDp S f b) (S 10 0) - S 11 (f * 12 + b) < 8 := by omega
    have h8 : S 11 (f * 12 + b) ≤ prj k (mDp S f b) (S 10 0) := by omega
    simp (disch := omega) only [nsub, nlt, h7, exI, exJ, exV, eq_self, true_and, and_true, true_or, or_true, if_true, if_false, not_true, not_false_eq_true, false_and, and_false, decide_true, decide_false, bi_T, bi_F, bi_0, bi_1, bi_z, bft, n10, n01, Nat.reduceEqDiff, Nat.reduceLT, Nat.reduceAdd, Nat.reduceMul, reduceCtorEq, Nat.not_lt_zero, b_Light_rowOf_151, b_Light_rowOf_158, bt_sh, bt_nI]
    simp only [h6, h8, exI, exJ, exV, eq_self, true_and, and_true, true_or, or_true, if_true, if_false, not_true, not_false_eq_true, false_and, and_false, decide_true, decide_false, bi_T, bi_F, bi_0, bi_1, bi_z, bft, n10, n01, Nat.reduceEqDiff, Nat.reduceLT, Nat.reduceAdd, Nat.reduceMul, reduceCtorEq] at ih
    by_cases h9 : cells.testBit (prj k (mDp S f b) (S 10 0) - S 11 (f * 12 + b)) = true
    · simp only [h9, exI, exJ, exV, eq_self, true_and, and_true, true_or, or_true, if_true, if_false, not_true, not_false_eq_true, false_and, and_false, decide_true, decide_false, bi_T, bi_F, bi_0, bi_1, bi_z, bft, n10, n01, Nat.reduceEqDiff, Nat.reduceLT, Nat.reduceAdd, Nat.reduceMul, reduceCtorEq] at ih
      simp (disch := omega) only [h9, ↓reduceIte, nadd, nmul, nsub, nlt, neq, ncl, nvi, ndiv, nrem, nand, nor, nxor, nshl, nshr, exI, exJ, exV, eq_self, true_and, and_true, true_or, or_true, if_true, if_false, not_true, not_false_eq_true, false_and, and_false, decide_true, decide_false, bi_T, bi_F, bi_0, bi_1, bi_z, bft, n10, n01, Nat.reduceEqDiff, Nat.reduceLT, Nat.reduceAdd, Nat.reduceMul, reduceCtorEq, b_Light_rowOf_169, b_Light_rowOf_178]
      exact ih _ _ _ _ _
    · simp only [h9, exI, exJ, exV, eq_self, true_and, and_true, true_or, or_true, if_true, if_false, not_true, not_false_eq_true, false_and, and_false, decide_true, decide_false, bi_T, bi_F, bi_0, bi_1, bi_z, bft, n10, n01, Nat.reduceEqDiff, Nat.reduceLT, Nat.reduceAdd, Nat.reduceMul, reduceCtorEq] at ih
      simp (disch := omega) only [h9, ↓reduceIte, nadd, nmul, nsub, nlt, neq, ncl, nvi, ndiv, nrem, nand, nor, nxor, nshl, nshr, exI, exJ, exV, eq_self, true_and, and_true, true_or, or_true, if_true, if_false, not_true, not_false_eq_true, false_and, and_false, decide_true, decide_false, bi_T, bi_F, bi_0, bi_1, bi_z, bft, n10, n01, Nat.reduceEqDiff, Nat.reduceLT, Nat.reduceAdd, Nat.reduceMul, reduceCtorEq, b_Light_rowOf_169, b_Light_rowOf_178]
      exact ih _ _ _ _ _
end LI
