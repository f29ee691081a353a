/-! ===== shadow, seen, common: both sides ===== -/
def allR (S : Nat → Nat → Nat) (b r : Nat) : Nat → Nat
  | 0 => 0
  | k + 1 => allR S b r k ||| shR S k b r
def cB (S : Nat → Nat → Nat) (f o b : Nat) : Nat := fb_sm (fun r => pcI (nI (shR S f b r &&& shR S o b r))) 16
def ahd (S : Nat → Nat → Nat) (f o b : Nat) : Bool := decide (o ≠ f ∧ sOn S o b = true ∧ (mDp S o b < mDp S f b ∨ (mDp S o b = mDp S f b ∧ o < f)))
def hidR (S : Nat → Nat → Nat) (f b r : Nat) : Nat → Nat
  | 0 => 0
  | k + 1 => if ahd S f k b then hidR S f b r k ||| shR S k b r else hidR S f b r k
def hidC (S : Nat → Nat → Nat) (f b : Nat) : Nat := fb_sm (fun r => pcI (nI (hidR S f b r 6 &&& shR S f b r))) 16
def blurS (S : Nat → Nat → Nat) (f b : Nat) : Nat := 100 * S 10 1 * (S 10 0 - mDp S f b) / mDp S f b
theorem allR_s (S : Nat → Nat → Nat) (b r k : Nat) : allR S b r (k + 1) = allR S b r k ||| shR S k b r := rfl
theorem shR_off {S : Nat → Nat → Nat} {f b r : Nat} (h : ¬ sOn S f b = true) : shR S f b r = 0 := by unfold shR; rw [if_neg h]
theorem sOn_big {S : Nat → Nat → Nat} {f b : Nat} (h : S 7 0 ≤ f) : ¬ sOn S f b = true := by
  unfold sOn
  intro z
  have := of_decide_eq_true z
  omega
theorem sOn_lt {S : Nat → Nat → Nat} {f b : Nat} (h : sOn S f b = true) : f < S 7 0 ∧ 0 < S 13 (f * 12 + b) := of_decide_eq_true h
theorem mDp_pos {S : Nat → Nat → Nat} (hB : SB S) {f b : Nat} (h : sOn S f b = true) : 1 ≤ mDp S f b := by
  have h1 := (sOn_lt h).2
  have h2 := sb10 hB
  unfold mDp
  omega
theorem mDp_lamp {S : Nat → Nat → Nat} (f b : Nat) : mDp S f b ≤ S 10 0 := Nat.min_le_right _ _
theorem allR_big {S : Nat → Nat → Nat} (b r : Nat) : ∀ k, allR S b r (S 7 0 + k) = allR S b r (S 7 0)
  | 0 => rfl
  | k + 1 => by
    show allR S b r (S 7 0 + k) ||| shR S (S 7 0 + k) b r = _
    rw [shR_off (sOn_big (by omega)), Nat.or_zero, allR_big b r k]
theorem allR_6 {S : Nat → Nat → Nat} (hB : SB S) (b r : Nat) : allR S b r 6 = allR S b r (S 7 0) := by
  have h := sb7 hB 0
  have e := allR_big (S := S) b r (6 - S 7 0)
  rwa [show S 7 0 + (6 - S 7 0) = 6 by omega] at e
theorem hidR_big {S : Nat → Nat → Nat} (f b r : Nat) : ∀ k, hidR S f b r (S 7 0 + k) = hidR S f b r (S 7 0)
  | 0 => rfl
  | k + 1 => by
    show (if ahd S f (S 7 0 + k) b then _ else _) = _
    exact (if_neg (by unfold ahd; intro z; exact sOn_big (by omega) (of_decide_eq_true z).2.1)).trans (hidR_big f b r k)
theorem hidR_6 {S : Nat → Nat → Nat} (hB : SB S) (f b r : Nat) : hidR S f b r 6 = hidR S f b r (S 7 0) := by
  have h := sb7 hB 0
  have e := hidR_big (S := S) f b r (6 - S 7 0)
  rwa [show S 7 0 + (6 - S 7 0) = 6 by omega] at e
theorem onI_bad {I : Nat → Nat → Int32} {f b : Int32} (h : beI b = false ∨ hasI I f = false) : onI I f b = false := by
  unfold onI
  apply decide_eq_false
  rintro ⟨h1, h2, -⟩
  rcases h with h | h
  · exact of_decide_eq_false h h2
  · exact of_decide_eq_false h h1
theorem beI_n {b : Nat} (hb : b < 12) : beI (nI b) = true := by unfold beI; simp (disch := omega) only [↓reduceIte, nadd, nmul, nsub, nlt, neq, ncl, nvi, ndiv, nrem, nand, nor, nxor, nshl, nshr, hb, Nat.not_lt_zero, not_false_eq_true, true_and, decide_true]
theorem beI_of {b : Int32} (h : beI b = true) : ∃ k, k < 12 ∧ b = nI k := by
  unfold beI at h
  have h := of_decide_eq_true h
  rcases nIx b 12 (by omega) with h1 | ⟨_, h1⟩ | h1
  · exact absurd h1 h.1
  · exact absurd h.2 h1
  · exact h1
theorem hasS_of {S : Nat → Nat → Nat} (hB : SB S) {f : Int32} (h : hasS S f = true) : ∃ k, k < S 7 0 ∧ f = nI k := by
  unfold hasS at h
  have h := of_decide_eq_true h
  have h6 := sb7 hB 0
  rcases nIx f (S 7 0) (by omega) with h1 | ⟨_, h1⟩ | h1
  · exact absurd h1 h.1
  · exact absurd h.2 h1
  · exact h1
section LI
variable {d : Nat} {g : aG} {I : Nat → Nat → Int32} {J : Nat → Nat → Int64} {Q : aQ} {S : Nat → Nat → Nat} {T : Nat → Int32}
theorem c_shadowRow (hg : Geo g) (hB : SB S) (hM : MS S T (I 91)) {f b r : Nat} (ho : sOn S f b = true) (hb : b < 12) (hr : r < 16) : a_call aTab aMX (d + 3) m_Mo_shadowRow [.ref 89, .int (nI f), .int (nI b), .int (nI r)] (g, I, J) Q = Q (some (.int (nI (shR S f b r)))) (g, I, J) := by
  have ht := sb10 hB
  have h7 := sb7 hB 0
  have hd := mDp_le hB f b
  have hp := prj_lt (l := S 10 0) (show r < 32 by omega) hd
  have hp2 := prj_le (l := S 10 0) (show r < 32 by omega) hd
  have hy := sb12 hB (f * 12 + b)
  have hx := sb11 hB (f * 12 + b)
  have h1 := sOn_lt ho
  have hz : ¬ 2 * S 10 0 = 0 := by omega
  have e0 : shR S f b r = shr S f b r 32 := by unfold shR; rw [if_pos ho]
  rw [e0, e_Mo_shadowRow]
  simp (disch := omega) only [b_Mo_shadowRow_0 hg, b_Mo_shadowRow_9 hg, b_Mo_shadowRow_25 hg, b_Mo_shadowRow_34, c_deepOf hg hB hM, c_term hg, c_placeOf hg, ms2 hM, ms2r hM, mp2 hM, exI, exJ, exV, eq_self, true_and, and_true, true_or, or_true, if_true, if_false, not_true, not_false_eq_true, false_and, and_false, decide_true, decide_false, bi_T, bi_F, bi_0, bi_1, bi_z, bft, n10, n01, Nat.reduceEqDiff, Nat.reduceLT, Nat.reduceAdd, Nat.reduceMul, reduceCtorEq, ↓reduceIte, nadd, nmul, nsub, nlt, neq, ncl, nvi, ndiv, nrem, nand, nor, nxor, nshl, nshr, hz]
  rw [show (2 * r + 1) * mDp S f b / (2 * S 10 0) = prj r (mDp S f b) (S 10 0) from rfl]
  by_cases h2 : prj r (mDp S f b) (S 10 0) < S 12 (f * 12 + b)
  · rw [shr_0 (fun c => by unfold lit; exact decide_eq_false (fun z => by omega))]
    simp (disch := omega) only [b_Mo_shadowRow_40, b_Mo_shadowRow_47, b_Mo_shadowRow_57, b_Mo_shadowRow_142, c_in, wlt, subneg, exI, exJ, exV, eq_self, true_and, and_true, true_or, or_true, if_true, if_false, not_true, not_false_eq_true, false_and, and_false, decide_true, decide_false, bi_T, bi_F, bi_0, bi_1, bi_z, bft, n10, n01, Nat.reduceEqDiff, Nat.reduceLT, Nat.reduceAdd, Nat.reduceMul, reduceCtorEq, ↓reduceIte, nadd, nmul, nsub, nlt, neq, ncl, nvi, ndiv, nrem, nand, nor, nxor, nshl, nshr]
  by_cases h3 : prj r (mDp S f b) (S 10 0) < S 12 (f * 12 + b) + 8
  rotate_left
  · rw [shr_0 (fun c => by unfold lit; exact decide_eq_false (fun z => by omega))]
    have h4 : 7 < prj r (mDp S f b) (S 10 0) - S 12 (f * 12 + b) := by omega
    simp (disch := omega) only [b_Mo_shadowRow_40, b_Mo_shadowRow_47, b_Mo_shadowRow_57, b_Mo_shadowRow_142, c_in, wlt, wgt, h4, exI, exJ, exV, eq_self, true_and, and_true, true_or, or_true, if_true, if_false, not_true, not_false_eq_true, false_and, and_false, decide_true, decide_false, bi_T, bi_F, bi_0, bi_1, bi_z, bft, n10, n01, Nat.reduceEqDiff, Nat.reduceLT, Nat.reduceAdd, Nat.reduceMul, reduceCtorEq, ↓reduceIte, nadd, nmul, nsub, nlt, neq, ncl, nvi, ndiv, nrem, nand, nor, nxor, nshl, nshr, Nat.not_lt_zero]
  have h4 : ¬ 7 < prj r (mDp S f b) (S 10 0) - S 12 (f * 12 + b) := by omega
  have hl : ∀ c, lit S f b r c = decide (S 11 (f * 12 + b) ≤ prj c (mDp S f b) (S 10 0) ∧ prj c (mDp S f b) (S 10 0) < S 11 (f * 12 + b) + 8 ∧ (S 8 (f * 8 + (prj r (mDp S f b) (S 10 0) - S 12 (f * 12 + b)))).testBit (prj c (mDp S f b) (S 10 0) - S 11 (f * 12 + b)) = true) := by
    intro c
    unfold lit
    congr 1
    apply propext
    constructor
    · exact fun z => z.2.2
    · exact fun z => ⟨by omega, h3, z⟩
  have hc : I 91 (16 + 8 * f + (prj r (mDp S f b) (S 10 0) - S 12 (f * 12 + b))) = nI (S 8 (f * 8 + (prj r (mDp S f b) (S 10 0) - S 12 (f * 12 + b)))) := by
    rw [Nat.add_assoc, Nat.mul_comm 8 f]
    exact ms16 hM (by omega)
  rw [nsub (by omega)]
  refine dn (P := fun k => ∀ v3 v8, a_wp aTab aMX (d + 2) m_Mo_shadowRow 40 [.ref 89, .int (nI f), .int (nI b), v3, .int (nI (shr S f b r k)), .int (nI (mDp S f b)), .int (nI (prj r (mDp S f b) (S 10 0) - S 12 (f * 12 + b))), .int (nI k), v8] [] (g, I, J) Q = Q (some (.int (nI (shr S f b r 32)))) (g, I, J)) (n := 32) ?_ ?_ 0 (by omega) _ _
  · intro v3 v8
    simp (disch := omega) only [↓reduceIte, nadd, nmul, nsub, nlt, neq, ncl, nvi, ndiv, nrem, nand, nor, nxor, nshl, nshr, exI, exJ, exV, eq_self, true_and, and_true, true_or, or_true, if_true, if_false, not_true, not_false_eq_true, false_and, and_false, decide_true, decide_false, bi_T, bi_F, bi_0, bi_1, bi_z, bft, n10, n01, Nat.reduceEqDiff, Nat.reduceLT, Nat.reduceAdd, Nat.reduceMul, reduceCtorEq, b_Mo_shadowRow_40, b_Mo_shadowRow_142, Nat.lt_irrefl]
  · intro k hk ih v3 v8
    have hq := prj_lt (l := S 10 0) hk hd
    have hq2 := prj_le (l := S 10 0) hk hd
    unfold shr at ih
    rw [hl k] at ih
    simp (disch := omega) only [↓reduceIte, nadd, nmul, nsub, nlt, neq, ncl, nvi, ndiv, nrem, nand, nor, nxor, nshl, nshr, exI, exJ, exV, eq_self, true_and, and_true, true_or, or_true, if_true, if_false, not_true, not_false_eq_true, false_and, and_false, decide_true, decide_false, bi_T, bi_F, bi_0, bi_1, bi_z, bft, n10, n01, Nat.reduceEqDiff, Nat.reduceLT, Nat.reduceAdd, Nat.reduceMul, reduceCtorEq, b_Mo_shadowRow_40, b_Mo_shadowRow_47, b_Mo_shadowRow_57, b_Mo_shadowRow_60 hg, b_Mo_shadowRow_75 hg, b_Mo_shadowRow_84, hk, c_in, wlt, wgt, h4, Nat.not_lt_zero, hz, c_term hg, c_placeOf hg, ms2 hM, ms2r hM, mp1 hM]
    rw [show (2 * k + 1) * mDp S f b / (2 * S 10 0) = prj k (mDp S f b) (S 10 0) from rfl]
    by_cases h5 : prj k (mDp S f b) (S 10 0) < S 11 (f * 12 + b)
    · have h6 : ¬ S 11 (f * 12 + b) ≤ prj k (mDp S f b) (S 10 0) := by omega
      simp only [h6, exI, exJ, exV, eq_self, true_and, and_true, true_or, or_true, if_true, if_false, not_true, not_false_eq_true, false_and, and_false, decide_true, decide_false, bi_T, bi_F, bi_0, bi_1, bi_z, bft, n10, n01, Nat.reduceEqDiff, Nat.reduceLT, Nat.reduceAdd, Nat.reduceMul, reduceCtorEq] at ih
      simp (disch := omega) only [subneg, ↓reduceIte, nadd, nmul, nsub, nlt, neq, ncl, nvi, ndiv, nrem, nand, nor, nxor, nshl, nshr, exI, exJ, exV, eq_self, true_and, and_true, true_or, or_true, if_true, if_false, not_true, not_false_eq_true, false_and, and_false, decide_true, decide_false, bi_T, bi_F, bi_0, bi_1, bi_z, bft, n10, n01, Nat.reduceEqDiff, Nat.reduceLT, Nat.reduceAdd, Nat.reduceMul, reduceCtorEq, b_Mo_shadowRow_99, b_Mo_shadowRow_132, b_Mo_shadowRow_133, wlt, Nat.or_zero]
      exact ih _ _
    by_cases h6 : prj k (mDp S f b) (S 10 0) < S 11 (f * 12 + b) + 8
    rotate_left
    · have h7 : 7 < prj k (mDp S f b) (S 10 0) - S 11 (f * 12 + b) := by omega
      simp only [h6, exI, exJ, exV, eq_self, true_and, and_true, true_or, or_true, if_true, if_false, not_true, not_false_eq_true, false_and, and_false, decide_true, decide_false, bi_T, bi_F, bi_0, bi_1, bi_z, bft, n10, n01, Nat.reduceEqDiff, Nat.reduceLT, Nat.reduceAdd, Nat.reduceMul, reduceCtorEq] at ih
      simp (disch := omega) only [↓reduceIte, nadd, nmul, nsub, nlt, neq, ncl, nvi, ndiv, nrem, nand, nor, nxor, nshl, nshr, exI, exJ, exV, eq_self, true_and, and_true, true_or, or_true, if_true, if_false, not_true, not_false_eq_true, false_and, and_false, decide_true, decide_false, bi_T, bi_F, bi_0, bi_1, bi_z, bft, n10, n01, Nat.reduceEqDiff, Nat.reduceLT, Nat.reduceAdd, Nat.reduceMul, reduceCtorEq, b_Mo_shadowRow_99, b_Mo_shadowRow_132, b_Mo_shadowRow_133, wlt, wgt, h7, Nat.not_lt_zero, Nat.or_zero]
      exact ih _ _
    have h7 : ¬ 7 < prj k (mDp S f b) (S 10 0) - S 11 (f * 12 + b) := by omega
    have h8 : S 11 (f * 12 + b) ≤ prj k (mDp S f b) (S 10 0) := by omega
    simp (disch := omega) only [nsub, wlt, wgt, nlt, h7, exI, exJ, exV, eq_self, true_and, and_true, true_or, or_true, if_true, if_false, not_true, not_false_eq_true, false_and, and_false, decide_true, decide_false, bi_T, bi_F, bi_0, bi_1, bi_z, bft, n10, n01, Nat.reduceEqDiff, Nat.reduceLT, Nat.reduceAdd, Nat.reduceMul, reduceCtorEq, Nat.not_lt_zero, b_Mo_shadowRow_99, b_Mo_shadowRow_102 hg, ↓reduceIte, nadd, nmul, nsub, nlt, neq, ncl, nvi, ndiv, nrem, nand, nor, nxor, nshl, nshr, hc, c_is, bt_nI]
    simp only [h6, h8, exI, exJ, exV, eq_self, true_and, and_true, true_or, or_true, if_true, if_false, not_true, not_false_eq_true, false_and, and_false, decide_true, decide_false, bi_T, bi_F, bi_0, bi_1, bi_z, bft, n10, n01, Nat.reduceEqDiff, Nat.reduceLT, Nat.reduceAdd, Nat.reduceMul, reduceCtorEq] at ih
    by_cases h9 : (S 8 (f * 8 + (prj r (mDp S f b) (S 10 0) - S 12 (f * 12 + b)))).testBit (prj k (mDp S f b) (S 10 0) - S 11 (f * 12 + b)) = true
    · simp only [h9, exI, exJ, exV, eq_self, true_and, and_true, true_or, or_true, if_true, if_false, not_true, not_false_eq_true, false_and, and_false, decide_true, decide_false, bi_T, bi_F, bi_0, bi_1, bi_z, bft, n10, n01, Nat.reduceEqDiff, Nat.reduceLT, Nat.reduceAdd, Nat.reduceMul, reduceCtorEq] at ih
      simp (disch := omega) only [h9, ↓reduceIte, nadd, nmul, nsub, nlt, neq, ncl, nvi, ndiv, nrem, nand, nor, nxor, nshl, nshr, exI, exJ, exV, eq_self, true_and, and_true, true_or, or_true, if_true, if_false, not_true, not_false_eq_true, false_and, and_false, decide_true, decide_false, bi_T, bi_F, bi_0, bi_1, bi_z, bft, n10, n01, Nat.reduceEqDiff, Nat.reduceLT, Nat.reduceAdd, Nat.reduceMul, reduceCtorEq, b_Mo_shadowRow_122, b_Mo_shadowRow_125, b_Mo_shadowRow_132, b_Mo_shadowRow_133]
      exact ih _ _
    · simp only [h9, exI, exJ, exV, eq_self, true_and, and_true, true_or, or_true, if_true, if_false, not_true, not_false_eq_true, false_and, and_false, decide_true, decide_false, bi_T, bi_F, bi_0, bi_1, bi_z, bft, n10, n01, Nat.reduceEqDiff, Nat.reduceLT, Nat.reduceAdd, Nat.reduceMul, reduceCtorEq] at ih
      simp (disch := omega) only [h9, ↓reduceIte, nadd, nmul, nsub, nlt, neq, ncl, nvi, ndiv, nrem, nand, nor, nxor, nshl, nshr, exI, exJ, exV, eq_self, true_and, and_true, true_or, or_true, if_true, if_false, not_true, not_false_eq_true, false_and, and_false, decide_true, decide_false, bi_T, bi_F, bi_0, bi_1, bi_z, bft, n10, n01, Nat.reduceEqDiff, Nat.reduceLT, Nat.reduceAdd, Nat.reduceMul, reduceCtorEq, b_Mo_shadowRow_122, b_Mo_shadowRow_125, b_Mo_shadowRow_132, b_Mo_shadowRow_133, Nat.or_zero]
      exact ih _ _
theorem c_allRow (hg : Geo g) (hB : SB S) (hM : MS S T (I 91)) {b r : Nat} (hb : b < 12) (hr : r < 16) : a_call aTab aMX (d + 4) m_Mo_allRow [.ref 89, .int (nI b), .int (nI r)] (g, I, J) Q = Q (some (.int (nI (allR S b r 6)))) (g, I, J) := by
  rw [allR_6 hB, e_Mo_allRow, b_Mo_allRow_0]
  have h6 := sb7 hB 0
  refine dn (P := fun k => a_wp aTab aMX (d + 3) m_Mo_allRow 5 [.ref 89, .int (nI b), .int (nI r), .int (nI (allR S b r k)), .int (nI k)] [] (g, I, J) Q = Q (some (.int (nI (allR S b r (S 7 0))))) (g, I, J)) (n := S 7 0) ?_ ?_ 0 (by omega)
  · simp (disch := omega) only [b_Mo_allRow_5 hg, b_Mo_allRow_47, ms0 hM, ↓reduceIte, nadd, nmul, nsub, nlt, neq, ncl, nvi, ndiv, nrem, nand, nor, nxor, nshl, nshr, exI, exJ, exV, eq_self, true_and, and_true, true_or, or_true, if_true, if_false, not_true, not_false_eq_true, false_and, and_false, decide_true, decide_false, bi_T, bi_F, bi_0, bi_1, bi_z, bft, n10, n01, Nat.reduceEqDiff, Nat.reduceLT, Nat.reduceAdd, Nat.reduceMul, reduceCtorEq, Nat.lt_irrefl]
  · intro k hk ih
    rw [allR_s] at ih
    rw [b_Mo_allRow_5 hg]
    simp (disch := omega) only [b_Mo_allRow_16 hg, b_Mo_allRow_24, ms0 hM, ↓reduceIte, nadd, nmul, nsub, nlt, neq, ncl, nvi, ndiv, nrem, nand, nor, nxor, nshl, nshr, exI, exJ, exV, eq_self, true_and, and_true, true_or, or_true, if_true, if_false, not_true, not_false_eq_true, false_and, and_false, decide_true, decide_false, bi_T, bi_F, bi_0, bi_1, bi_z, bft, n10, n01, Nat.reduceEqDiff, Nat.reduceLT, Nat.reduceAdd, Nat.reduceMul, reduceCtorEq, hk, c_mIsOn hg hB hM]
    by_cases ho : sOn S k b = true
    · simp (disch := first | omega | exact ho) only [ho, b_Mo_allRow_27 hg, b_Mo_allRow_35, b_Mo_allRow_39, ↓reduceIte, nadd, nmul, nsub, nlt, neq, ncl, nvi, ndiv, nrem, nand, nor, nxor, nshl, nshr, exI, exJ, exV, eq_self, true_and, and_true, true_or, or_true, if_true, if_false, not_true, not_false_eq_true, false_and, and_false, decide_true, decide_false, bi_T, bi_F, bi_0, bi_1, bi_z, bft, n10, n01, Nat.reduceEqDiff, Nat.reduceLT, Nat.reduceAdd, Nat.reduceMul, reduceCtorEq, c_shadowRow hg hB hM]
      exact ih
    · rw [shR_off ho] at ih
      simp (disch := omega) only [ho, b_Mo_allRow_38, b_Mo_allRow_39, ↓reduceIte, nadd, nmul, nsub, nlt, neq, ncl, nvi, ndiv, nrem, nand, nor, nxor, nshl, nshr, exI, exJ, exV, eq_self, true_and, and_true, true_or, or_true, if_true, if_false, not_true, not_false_eq_true, false_and, and_false, decide_true, decide_false, bi_T, bi_F, bi_0, bi_1, bi_z, bft, n10, n01, Nat.reduceEqDiff, Nat.reduceLT, Nat.reduceAdd, Nat.reduceMul, reduceCtorEq]
      exact ih
theorem c_rowOfAll (hg : Geo g) (hS : CS S I) {b r : Nat} (hb : b < 12) (hr : r < 16) : a_call aTab aMX (d + 4) m_Light_rowOfAll [.ref 32, .int (nI b), .int (nI r)] (g, I, J) Q = Q (some (.int (nI (allR S b r 6)))) (g, I, J) := by
  rw [e_Light_rowOfAll, b_Light_rowOfAll_0]
  refine dn (P := fun k => a_wp aTab aMX (d + 3) m_Light_rowOfAll 5 [.ref 32, .int (nI b), .int (nI r), .int (nI (allR S b r k)), .int (nI k)] [] (g, I, J) Q = Q (some (.int (nI (allR S b r 6)))) (g, I, J)) (n := 6) ?_ ?_ 0 (by omega)
  · simp (disch := omega) only [b_Light_rowOfAll_5, b_Light_rowOfAll_29, ↓reduceIte, nadd, nmul, nsub, nlt, neq, ncl, nvi, ndiv, nrem, nand, nor, nxor, nshl, nshr, exI, exJ, exV, eq_self, true_and, and_true, true_or, or_true, if_true, if_false, not_true, not_false_eq_true, false_and, and_false, decide_true, decide_false, bi_T, bi_F, bi_0, bi_1, bi_z, bft, n10, n01, Nat.reduceEqDiff, Nat.reduceLT, Nat.reduceAdd, Nat.reduceMul, reduceCtorEq, Nat.lt_irrefl]
  · intro k hk ih
    rw [allR_s] at ih
    rw [b_Light_rowOfAll_5]
    simp (disch := omega) only [b_Light_rowOfAll_12 hg, b_Light_rowOfAll_21, c_rowOf hg hS, ↓reduceIte, nadd, nmul, nsub, nlt, neq, ncl, nvi, ndiv, nrem, nand, nor, nxor, nshl, nshr, exI, exJ, exV, eq_self, true_and, and_true, true_or, or_true, if_true, if_false, not_true, not_false_eq_true, false_and, and_false, decide_true, decide_false, bi_T, bi_F, bi_0, bi_1, bi_z, bft, n10, n01, Nat.reduceEqDiff, Nat.reduceLT, Nat.reduceAdd, Nat.reduceMul, reduceCtorEq, hk]
    exact ih
theorem c_rowOfAllX (hg : Geo g) (hS : CS S I) {b r : Int32} (h : beI b = false ∨ r < nI 0 ∨ ¬ r < nI 16) : a_call aTab aMX (d + 4) m_Light_rowOfAll [.ref 32, .int b, .int r] (g, I, J) Q = Q (some (.int (nI 0))) (g, I, J) := by
  rw [e_Light_rowOfAll, b_Light_rowOfAll_0]
  refine dn (P := fun k => a_wp aTab aMX (d + 3) m_Light_rowOfAll 5 [.ref 32, .int b, .int r, .int (nI 0), .int (nI k)] [] (g, I, J) Q = Q (some (.int (nI 0))) (g, I, J)) (n := 6) ?_ ?_ 0 (by omega)
  · simp (disch := omega) only [b_Light_rowOfAll_5, b_Light_rowOfAll_29, ↓reduceIte, nadd, nmul, nsub, nlt, neq, ncl, nvi, ndiv, nrem, nand, nor, nxor, nshl, nshr, exI, exJ, exV, eq_self, true_and, and_true, true_or, or_true, if_true, if_false, not_true, not_false_eq_true, false_and, and_false, decide_true, decide_false, bi_T, bi_F, bi_0, bi_1, bi_z, bft, n10, n01, Nat.reduceEqDiff, Nat.reduceLT, Nat.reduceAdd, Nat.reduceMul, reduceCtorEq, Nat.lt_irrefl]
  · intro k hk ih
    have hx : onI I (nI k) b = false ∨ r < nI 0 ∨ ¬ r < nI 16 := by
      rcases h with h | h
      · exact Or.inl (onI_bad (Or.inl h))
      · exact Or.inr h
    rw [b_Light_rowOfAll_5]
    simp (disch := omega) only [b_Light_rowOfAll_12 hg, b_Light_rowOfAll_21, Nat.or_self, c_rowOfX hg hS hx, ↓reduceIte, nadd, nmul, nsub, nlt, neq, ncl, nvi, ndiv, nrem, nand, nor, nxor, nshl, nshr, exI, exJ, exV, eq_self, true_and, and_true, true_or, or_true, if_true, if_false, not_true, not_false_eq_true, false_and, and_false, decide_true, decide_false, bi_T, bi_F, bi_0, bi_1, bi_z, bft, n10, n01, Nat.reduceEqDiff, Nat.reduceLT, Nat.reduceAdd, Nat.reduceMul, reduceCtorEq, hk]
    exact ih
theorem c_cellsInBoth (hg : Geo g) (hS : CS S I) {f o b : Nat} (hf : f < 6) (ho : o < 6) (hb : b < 12) : a_call aTab aMX (d + 4) m_Light_cellsInBoth [.ref 32, .int (nI f), .int (nI o), .int (nI b)] (g, I, J) Q = Q (some (.int (nI (cB S f o b)))) (g, I, J) := by
  rw [e_Light_cellsInBoth, b_Light_cellsInBoth_0]
  refine dn (P := fun k => a_wp aTab aMX (d + 3) m_Light_cellsInBoth 6 [.ref 32, .int (nI f), .int (nI o), .int (nI b), .int (nI (fb_sm (fun r => pcI (nI (shR S f b r &&& shR S o b r))) k)), .int (nI k)] [] (g, I, J) Q = Q (some (.int (nI (cB S f o b)))) (g, I, J)) (n := 16) ?_ ?_ 0 (by omega)
  · simp (disch := omega) only [b_Light_cellsInBoth_6, b_Light_cellsInBoth_44, ↓reduceIte, nadd, nmul, nsub, nlt, neq, ncl, nvi, ndiv, nrem, nand, nor, nxor, nshl, nshr, exI, exJ, exV, eq_self, true_and, and_true, true_or, or_true, if_true, if_false, not_true, not_false_eq_true, false_and, and_false, decide_true, decide_false, bi_T, bi_F, bi_0, bi_1, bi_z, bft, n10, n01, Nat.reduceEqDiff, Nat.reduceLT, Nat.reduceAdd, Nat.reduceMul, reduceCtorEq, Nat.lt_irrefl, cB]
  · intro k hk ih
    rw [fb_sm_succ] at ih
    rw [b_Light_cellsInBoth_6]
    simp (disch := omega) only [b_Light_cellsInBoth_13 hg, b_Light_cellsInBoth_23 hg, b_Light_cellsInBoth_31, b_Light_cellsInBoth_35, c_rowOf hg hS, c_bitI, ↓reduceIte, nadd, nmul, nsub, nlt, neq, ncl, nvi, ndiv, nrem, nand, nor, nxor, nshl, nshr, exI, exJ, exV, eq_self, true_and, and_true, true_or, or_true, if_true, if_false, not_true, not_false_eq_true, false_and, and_false, decide_true, decide_false, bi_T, bi_F, bi_0, bi_1, bi_z, bft, n10, n01, Nat.reduceEqDiff, Nat.reduceLT, Nat.reduceAdd, Nat.reduceMul, reduceCtorEq, hk]
    exact ih
theorem c_blur (hg : Geo g) (hS : CS S I) {f b : Nat} (ho : sOn S f b = true) (hb : b < 12) : a_call aTab aMX (d + 3) m_Light_blur [.ref 32, .int (nI f), .int (nI b)] (g, I, J) Q = Q (some (.int (nI (blurS S f b)))) (g, I, J) := by
  have h1 := (sOn_lt ho).1
  have h6 := sb7 hS.2 0
  have h2 := mDp_pos hS.2 ho
  have h3 := mDp_le hS.2 f b
  have h4 := mDp_lamp (S := S) f b
  have h5 := sb10 hS.2
  have h7 : ¬ mDp S f b < 1 := by omega
  have h8 : ¬ mDp S f b = 0 := by omega
  have h9 : 100 * S 10 1 * (S 10 0 - mDp S f b) ≤ 1600 * 32 := Nat.mul_le_mul (by omega) (by omega)
  simp (disch := first | omega | exact l13 hS _ | exact l11 hS _ | exact l12 hS _ | exact l10 hS _ | exact l8 hS _ | exact l9 hS _ | exact l7 hS _) only [e_Light_blur, b_Light_blur_0 hg, b_Light_blur_9, b_Light_blur_15, b_Light_blur_19 hg, b_Light_blur_45, c_depth hg hS, sDp_on ho, cs7 hS, cs8 hS, cs9 hS, cs10 hS, cs11 hS, cs12 hS, cs13 hS, ↓reduceIte, nadd, nmul, nsub, nlt, neq, ncl, nvi, ndiv, nrem, nand, nor, nxor, nshl, nshr, exI, exJ, exV, eq_self, true_and, and_true, true_or, or_true, if_true, if_false, not_true, not_false_eq_true, false_and, and_false, decide_true, decide_false, bi_T, bi_F, bi_0, bi_1, bi_z, bft, n10, n01, Nat.reduceEqDiff, Nat.reduceLT, Nat.reduceAdd, Nat.reduceMul, reduceCtorEq, h7, h8]
  rfl
theorem ahd_c {f o b r : Nat} (hB : SB S) (ho : sOn S f b = true) (hk : o < 6) : (if sDp S o b < mDp S f b ∨ (sDp S o b = mDp S f b ∧ o < f) then hidR S f b r o ||| shR S o b r else hidR S f b r o) = hidR S f b r (o + 1) := by
  show _ = if ahd S f o b then _ else _
  by_cases h1 : sOn S o b = true
  · have : (sDp S o b < mDp S f b ∨ (sDp S o b = mDp S f b ∧ o < f)) ↔ ahd S f o b = true := by
      unfold ahd
      rw [sDp_on h1, decide_eq_true_iff]
      constructor
      · intro h
        refine ⟨fun e => ?_, h1, h⟩
        subst e
        omega
      · exact fun h => h.2.2
    by_cases h2 : ahd S f o b = true
    · rw [if_pos (this.2 h2), if_pos h2]
    · rw [if_neg (fun z => h2 (this.1 z)), if_neg h2]
  · have h2 : ¬ ahd S f o b = true := by unfold ahd; rw [decide_eq_true_iff]; exact fun z => h1 z.2.1
    rw [if_neg h2, shR_off h1, Nat.or_zero, ite_self]
theorem c_hiddenCells (hg : Geo g) (hS : CS S I) {f b : Nat} (ho : sOn S f b = true) (hb : b < 12) : a_call aTab aMX (d + 4) m_Light_hiddenCells [.ref 32, .int (nI f), .int (nI b)] (g, I, J) Q = Q (some (.int (nI (hidC S f b)))) (g, I, J) := by
  have h1 := (sOn_lt ho).1
  have h6 := sb7 hS.2 0
  have h3 := mDp_le hS.2 f b
  simp (disch := omega) only [e_Light_hiddenCells, b_Light_hiddenCells_0 hg, b_Light_hiddenCells_9, c_depth hg hS, sDp_on ho, ↓reduceIte, nadd, nmul, nsub, nlt, neq, ncl, nvi, ndiv, nrem, nand, nor, nxor, nshl, nshr, exI, exJ, exV, eq_self, true_and, and_true, true_or, or_true, if_true, if_false, not_true, not_false_eq_true, false_and, and_false, decide_true, decide_false, bi_T, bi_F, bi_0, bi_1, bi_z, bft, n10, n01, Nat.reduceEqDiff, Nat.reduceLT, Nat.reduceAdd, Nat.reduceMul, reduceCtorEq]
  refine dn (P := fun r => ∀ v6 v7 v8, a_wp aTab aMX (d + 3) m_Light_hiddenCells 16 [.ref 32, .int (nI f), .int (nI b), .int (nI (mDp S f b)), .int (nI (fb_sm (fun r => pcI (nI (hidR S f b r 6 &&& shR S f b r))) r)), .int (nI r), v6, v7, v8] [] (g, I, J) Q = Q (some (.int (nI (hidC S f b)))) (g, I, J)) (n := 16) ?_ ?_ 0 (by omega) _ _ _
  · intro v6 v7 v8
    simp (disch := omega) only [b_Light_hiddenCells_16, b_Light_hiddenCells_111, ↓reduceIte, nadd, nmul, nsub, nlt, neq, ncl, nvi, ndiv, nrem, nand, nor, nxor, nshl, nshr, exI, exJ, exV, eq_self, true_and, and_true, true_or, or_true, if_true, if_false, not_true, not_false_eq_true, false_and, and_false, decide_true, decide_false, bi_T, bi_F, bi_0, bi_1, bi_z, bft, n10, n01, Nat.reduceEqDiff, Nat.reduceLT, Nat.reduceAdd, Nat.reduceMul, reduceCtorEq, Nat.lt_irrefl, hidC]
  · intro r hr ih v6 v7 v8
    rw [fb_sm_succ] at ih
    rw [b_Light_hiddenCells_16]
    simp (disch := omega) only [b_Light_hiddenCells_23, ↓reduceIte, nadd, nmul, nsub, nlt, neq, ncl, nvi, ndiv, nrem, nand, nor, nxor, nshl, nshr, exI, exJ, exV, eq_self, true_and, and_true, true_or, or_true, if_true, if_false, not_true, not_false_eq_true, false_and, and_false, decide_true, decide_false, bi_T, bi_F, bi_0, bi_1, bi_z, bft, n10, n01, Nat.reduceEqDiff, Nat.reduceLT, Nat.reduceAdd, Nat.reduceMul, reduceCtorEq, hr]
    refine dn (P := fun k => ∀ v8, a_wp aTab aMX (d + 3) m_Light_hiddenCells 29 [.ref 32, .int (nI f), .int (nI b), .int (nI (mDp S f b)), .int (nI (fb_sm (fun r => pcI (nI (hidR S f b r 6 &&& shR S f b r))) r)), .int (nI r), .int (nI (hidR S f b r k)), .int (nI k), v8] [] (g, I, J) Q = Q (some (.int (nI (hidC S f b)))) (g, I, J)) (n := 6) ?_ ?_ 0 (by omega) _
    · intro v8
      rw [b_Light_hiddenCells_29]
      simp (disch := omega) only [b_Light_hiddenCells_86 hg, b_Light_hiddenCells_98, b_Light_hiddenCells_102, c_rowOf hg hS, c_bitI, ↓reduceIte, nadd, nmul, nsub, nlt, neq, ncl, nvi, ndiv, nrem, nand, nor, nxor, nshl, nshr, exI, exJ, exV, eq_self, true_and, and_true, true_or, or_true, if_true, if_false, not_true, not_false_eq_true, false_and, and_false, decide_true, decide_false, bi_T, bi_F, bi_0, bi_1, bi_z, bft, n10, n01, Nat.reduceEqDiff, Nat.reduceLT, Nat.reduceAdd, Nat.reduceMul, reduceCtorEq, Nat.lt_irrefl]
      exact ih _ _ _
    · intro k hk ih2 v8
      have h4 := sDp_le hS.2 k b
      rw [← ahd_c hS.2 ho hk] at ih2
      rw [b_Light_hiddenCells_29]
      simp (disch := omega) only [b_Light_hiddenCells_36 hg, b_Light_hiddenCells_46, c_depth hg hS, ↓reduceIte, nadd, nmul, nsub, nlt, neq, ncl, nvi, ndiv, nrem, nand, nor, nxor, nshl, nshr, exI, exJ, exV, eq_self, true_and, and_true, true_or, or_true, if_true, if_false, not_true, not_false_eq_true, false_and, and_false, decide_true, decide_false, bi_T, bi_F, bi_0, bi_1, bi_z, bft, n10, n01, Nat.reduceEqDiff, Nat.reduceLT, Nat.reduceAdd, Nat.reduceMul, reduceCtorEq, hk]
      by_cases q1 : sDp S k b < mDp S f b
      · simp only [q1, exI, exJ, exV, eq_self, true_and, and_true, true_or, or_true, if_true, if_false, not_true, not_false_eq_true, false_and, and_false, decide_true, decide_false, bi_T, bi_F, bi_0, bi_1, bi_z, bft, n10, n01, Nat.reduceEqDiff, Nat.reduceLT, Nat.reduceAdd, Nat.reduceMul, reduceCtorEq] at ih2
        simp (disch := omega) only [b_Light_hiddenCells_66 hg, b_Light_hiddenCells_77, b_Light_hiddenCells_80, c_rowOf hg hS, ↓reduceIte, nadd, nmul, nsub, nlt, neq, ncl, nvi, ndiv, nrem, nand, nor, nxor, nshl, nshr, exI, exJ, exV, eq_self, true_and, and_true, true_or, or_true, if_true, if_false, not_true, not_false_eq_true, false_and, and_false, decide_true, decide_false, bi_T, bi_F, bi_0, bi_1, bi_z, bft, n10, n01, Nat.reduceEqDiff, Nat.reduceLT, Nat.reduceAdd, Nat.reduceMul, reduceCtorEq, q1]
        exact ih2 _
      · by_cases q2 : sDp S k b = mDp S f b
        · by_cases q3 : k < f
          · simp only [q1, q2, q3, exI, exJ, exV, eq_self, true_and, and_true, true_or, or_true, if_true, if_false, not_true, not_false_eq_true, false_and, and_false, decide_true, decide_false, bi_T, bi_F, bi_0, bi_1, bi_z, bft, n10, n01, Nat.reduceEqDiff, Nat.reduceLT, Nat.reduceAdd, Nat.reduceMul, reduceCtorEq, or_true] at ih2
            simp (disch := omega) only [b_Light_hiddenCells_54, b_Light_hiddenCells_60, b_Light_hiddenCells_66 hg, b_Light_hiddenCells_77, b_Light_hiddenCells_80, c_rowOf hg hS, ↓reduceIte, nadd, nmul, nsub, nlt, neq, ncl, nvi, ndiv, nrem, nand, nor, nxor, nshl, nshr, exI, exJ, exV, eq_self, true_and, and_true, true_or, or_true, if_true, if_false, not_true, not_false_eq_true, false_and, and_false, decide_true, decide_false, bi_T, bi_F, bi_0, bi_1, bi_z, bft, n10, n01, Nat.reduceEqDiff, Nat.reduceLT, Nat.reduceAdd, Nat.reduceMul, reduceCtorEq, q1, q2, q3, Nat.lt_irrefl]
            exact ih2 _
          · simp only [q1, q2, q3, exI, exJ, exV, eq_self, true_and, and_true, true_or, or_true, if_true, if_false, not_true, not_false_eq_true, false_and, and_false, decide_true, decide_false, bi_T, bi_F, bi_0, bi_1, bi_z, bft, n10, n01, Nat.reduceEqDiff, Nat.reduceLT, Nat.reduceAdd, Nat.reduceMul, reduceCtorEq, or_false, Nat.lt_irrefl] at ih2
            simp (disch := omega) only [b_Light_hiddenCells_54, b_Light_hiddenCells_60, b_Light_hiddenCells_80, ↓reduceIte, nadd, nmul, nsub, nlt, neq, ncl, nvi, ndiv, nrem, nand, nor, nxor, nshl, nshr, exI, exJ, exV, eq_self, true_and, and_true, true_or, or_true, if_true, if_false, not_true, not_false_eq_true, false_and, and_false, decide_true, decide_false, bi_T, bi_F, bi_0, bi_1, bi_z, bft, n10, n01, Nat.reduceEqDiff, Nat.reduceLT, Nat.reduceAdd, Nat.reduceMul, reduceCtorEq, q1, q2, q3, Nat.lt_irrefl]
            exact ih2 _
        · simp only [q1, q2, exI, exJ, exV, eq_self, true_and, and_true, true_or, or_true, if_true, if_false, not_true, not_false_eq_true, false_and, and_false, decide_true, decide_false, bi_T, bi_F, bi_0, bi_1, bi_z, bft, n10, n01, Nat.reduceEqDiff, Nat.reduceLT, Nat.reduceAdd, Nat.reduceMul, reduceCtorEq, or_false] at ih2
          simp (disch := omega) only [b_Light_hiddenCells_54, b_Light_hiddenCells_60, b_Light_hiddenCells_80, ↓reduceIte, nadd, nmul, nsub, nlt, neq, ncl, nvi, ndiv, nrem, nand, nor, nxor, nshl, nshr, exI, exJ, exV, eq_self, true_and, and_true, true_or, or_true, if_true, if_false, not_true, not_false_eq_true, false_and, and_false, decide_true, decide_false, bi_T, bi_F, bi_0, bi_1, bi_z, bft, n10, n01, Nat.reduceEqDiff, Nat.reduceLT, Nat.reduceAdd, Nat.reduceMul, reduceCtorEq, q1, q2]
          exact ih2 _
end LI
