/-! ===== Scene: what its methods answer ===== -/
def hasI (I : Nat → Nat → Int32) (f : Int32) : Bool := decide (¬ f < nI 0 ∧ f < I 7 0)
def onI (I : Nat → Nat → Int32) (f b : Int32) : Bool := decide ((¬ f < nI 0 ∧ f < I 7 0) ∧ (¬ b < nI 0 ∧ b < nI 12) ∧ nI 0 < I 13 (f * nI 12 + b).toNatClampNeg)
def beI (b : Int32) : Bool := decide (¬ b < nI 0 ∧ b < nI 12)
/-- the numbers of a scene, by their rows -/
def SB (S : Nat → Nat → Nat) : Prop := (∀ a k, 7 ≤ a → a ≤ 13 → S a k ≤ 255) ∧ (∀ k, S 7 k ≤ 6) ∧ (∀ k, S 9 k ≤ 2) ∧ (∀ k, S 11 k ≤ 31) ∧ (∀ k, S 12 k ≤ 15) ∧ (∀ k, S 13 k ≤ 32) ∧ (2 ≤ S 10 0 ∧ S 10 0 ≤ 32 ∧ S 10 1 ≤ 16 ∧ S 10 2 ≤ 3 ∧ S 10 3 ≤ 1 ∧ S 10 4 ≤ 6 ∧ S 10 5 ≤ 31 ∧ S 10 6 ≤ 31) ∧ (∀ f, f < S 7 0 → 1 ≤ S 9 f)
section SBs
variable {S : Nat → Nat → Nat}
theorem sb_lt {a k : Nat} (h : SB S) (h1 : 7 ≤ a) (h2 : a ≤ 13) : S a k < 2147483648 := Nat.lt_of_le_of_lt (h.1 a k h1 h2) (by decide)
theorem sb7 (h : SB S) (k : Nat) : S 7 k ≤ 6 := h.2.1 k
theorem sb8 (h : SB S) (k : Nat) : S 8 k ≤ 255 := h.1 8 k (by decide) (by decide)
theorem sb9 (h : SB S) (k : Nat) : S 9 k ≤ 2 := h.2.2.1 k
theorem sb11 (h : SB S) (k : Nat) : S 11 k ≤ 31 := h.2.2.2.1 k
theorem sb12 (h : SB S) (k : Nat) : S 12 k ≤ 15 := h.2.2.2.2.1 k
theorem sb13 (h : SB S) (k : Nat) : S 13 k ≤ 32 := h.2.2.2.2.2.1 k
theorem sb10 (h : SB S) : 2 ≤ S 10 0 ∧ S 10 0 ≤ 32 ∧ S 10 1 ≤ 16 ∧ S 10 2 ≤ 3 ∧ S 10 3 ≤ 1 ∧ S 10 4 ≤ 6 ∧ S 10 5 ≤ 31 ∧ S 10 6 ≤ 31 := h.2.2.2.2.2.2.1
theorem sb9p (h : SB S) {f : Nat} (hf : f < S 7 0) : 1 ≤ S 9 f := h.2.2.2.2.2.2.2 f hf
end SBs
def CS (S : Nat → Nat → Nat) (I : Nat → Nat → Int32) : Prop := (∀ a k, 7 ≤ a → a ≤ 13 → I a k = nI (S a k)) ∧ SB S
section CSs
variable {S : Nat → Nat → Nat} {I : Nat → Nat → Int32}
theorem csB (h : CS S I) : SB S := h.2
theorem cs7 (h : CS S I) (k : Nat) : I 7 k = nI (S 7 k) := h.1 7 k (by decide) (by decide)
theorem cs8 (h : CS S I) (k : Nat) : I 8 k = nI (S 8 k) := h.1 8 k (by decide) (by decide)
theorem cs9 (h : CS S I) (k : Nat) : I 9 k = nI (S 9 k) := h.1 9 k (by decide) (by decide)
theorem cs10 (h : CS S I) (k : Nat) : I 10 k = nI (S 10 k) := h.1 10 k (by decide) (by decide)
theorem cs11 (h : CS S I) (k : Nat) : I 11 k = nI (S 11 k) := h.1 11 k (by decide) (by decide)
theorem cs12 (h : CS S I) (k : Nat) : I 12 k = nI (S 12 k) := h.1 12 k (by decide) (by decide)
theorem cs13 (h : CS S I) (k : Nat) : I 13 k = nI (S 13 k) := h.1 13 k (by decide) (by decide)
theorem l7 (h : CS S I) (k : Nat) : S 7 k < 2147483648 := sb_lt h.2 (by decide) (by decide)
theorem l8 (h : CS S I) (k : Nat) : S 8 k < 2147483648 := sb_lt h.2 (by decide) (by decide)
theorem l9 (h : CS S I) (k : Nat) : S 9 k < 2147483648 := sb_lt h.2 (by decide) (by decide)
theorem l10 (h : CS S I) (k : Nat) : S 10 k < 2147483648 := sb_lt h.2 (by decide) (by decide)
theorem l11 (h : CS S I) (k : Nat) : S 11 k < 2147483648 := sb_lt h.2 (by decide) (by decide)
theorem l12 (h : CS S I) (k : Nat) : S 12 k < 2147483648 := sb_lt h.2 (by decide) (by decide)
theorem l13 (h : CS S I) (k : Nat) : S 13 k < 2147483648 := sb_lt h.2 (by decide) (by decide)
end CSs
def sOn (S : Nat → Nat → Nat) (f b : Nat) : Bool := decide (f < S 7 0 ∧ 0 < S 13 (f * 12 + b))
def sDp (S : Nat → Nat → Nat) (f b : Nat) : Nat := if sOn S f b then min (S 13 (f * 12 + b)) (S 10 0) else 0
def onb (S : Nat → Nat → Nat) (b : Nat) : Nat → Nat
  | 0 => 0
  | k + 1 => if sOn S k b then onb S b k ||| 1 <<< k else onb S b k
def sOns (S : Nat → Nat → Nat) (b : Nat) : Nat := onb S b (S 7 0)
def sStay (S : Nat → Nat → Nat) (f b : Nat) : Bool := decide (b = 0 ∨ (sOn S f b = true ∧ sOn S f (b - 1) = true ∧ S 11 (f * 12 + b) = S 11 (f * 12 + b - 1) ∧ S 12 (f * 12 + b) = S 12 (f * 12 + b - 1) ∧ S 13 (f * 12 + b) = S 13 (f * 12 + b - 1)))
def tCells (T : Nat → Int32) : Nat := fb_sm (fun r => pcI (T r)) 16
def put3 (I : Nat → Nat → Int32) (p : Nat) (x y z : Int32) : Nat → Nat → Int32 := u2 (u2 (u2 I 11 p x) 12 p y) 13 p z
theorem pcI_le (x : Int32) : pcI x ≤ 32 := fb_ct_le _ 32
theorem pcL_le (x : Int64) : pcL x ≤ 64 := fb_ct_le _ 64
theorem tC_le (T : Nat → Int32) (n : Nat) : fb_sm (fun r => pcI (T r)) n ≤ n * 32 := by
  rw [← fb_sm_const]
  exact fb_sm_le (fun k _ => pcI_le _)
section SC
variable {d : Nat} {g : aG} {I : Nat → Nat → Int32} {J : Nat → Nat → Int64} {Q : aQ} {S : Nat → Nat → Nat}
theorem c_isBeat (b : Int32) : a_call aTab aMX (d + 1) m_Cp_isBeat [.int b] (g, I, J) Q = Q (some (.int (bi (beI b)))) (g, I, J) := by
  simp only [e_Cp_isBeat, b_Cp_isBeat_0, b_Cp_isBeat_4, b_Cp_isBeat_10, b_Cp_isBeat_14, b_Cp_isBeat_15, beI]
  by_cases h1 : b < nI 0 <;> by_cases h2 : b < nI 12 <;> simp only [h1, h2, exI, exJ, exV, eq_self, true_and, and_true, true_or, or_true, if_true, if_false, not_true, not_false_eq_true, false_and, and_false, decide_true, decide_false, bi_T, bi_F, bi_0, bi_1, bi_z, bft, n10, n01, Nat.reduceEqDiff, Nat.reduceLT, Nat.reduceAdd, Nat.reduceMul, reduceCtorEq]
theorem c_has (hg : Geo g) (f : Int32) : a_call aTab aMX (d + 1) m_Scene_has [.ref 7, .int f] (g, I, J) Q = Q (some (.int (bi (hasI I f)))) (g, I, J) := by
  simp only [e_Scene_has, b_Scene_has_0, b_Scene_has_4 hg, b_Scene_has_12, b_Scene_has_16, b_Scene_has_17, hasI]
  by_cases h1 : f < nI 0 <;> by_cases h2 : f < I 7 0 <;> simp only [h1, h2, exI, exJ, exV, eq_self, true_and, and_true, true_or, or_true, if_true, if_false, not_true, not_false_eq_true, false_and, and_false, decide_true, decide_false, bi_T, bi_F, bi_0, bi_1, bi_z, bft, n10, n01, Nat.reduceEqDiff, Nat.reduceLT, Nat.reduceAdd, Nat.reduceMul, reduceCtorEq]
theorem CS_ix {f b : Int32} (hS : CS S I) (h1 : ¬ f < nI 0) (h2 : f < I 7 0) (h3 : ¬ b < nI 0) (h4 : b < nI 12) : ∃ j k, j < S 7 0 ∧ k < 12 ∧ f = nI j ∧ b = nI k := by
  rw [cs7 hS] at h2
  have h6 := sb7 hS.2 0
  rcases nIx f (S 7 0) (by omega) with h | ⟨_, h⟩ | ⟨j, hj, rfl⟩
  · exact absurd h h1
  · exact absurd h2 h
  · rcases nIx b 12 (by omega) with h | ⟨_, h⟩ | ⟨k, hk, rfl⟩
    · exact absurd h h3
    · exact absurd h4 h
    · exact ⟨j, k, hj, hk, rfl, rfl⟩
theorem c_isOn (hg : Geo g) (hS : CS S I) (f b : Int32) : a_call aTab aMX (d + 1) m_Scene_isOn [.ref 7, .int f, .int b] (g, I, J) Q = Q (some (.int (bi (onI I f b)))) (g, I, J) := by
  simp only [e_Scene_isOn, b_Scene_isOn_0, b_Scene_isOn_4 hg, b_Scene_isOn_12, b_Scene_isOn_16, b_Scene_isOn_22 hg, b_Scene_isOn_36, b_Scene_isOn_40, b_Scene_isOn_41, onI]
  by_cases h1 : f < nI 0 <;> by_cases h2 : f < I 7 0 <;> by_cases h3 : b < nI 0 <;> by_cases h4 : b < nI 12 <;> simp only [h1, h2, h3, h4, exI, exJ, exV, eq_self, true_and, and_true, true_or, or_true, if_true, if_false, not_true, not_false_eq_true, false_and, and_false, decide_true, decide_false, bi_T, bi_F, bi_0, bi_1, bi_z, bft, n10, n01, Nat.reduceEqDiff, Nat.reduceLT, Nat.reduceAdd, Nat.reduceMul, reduceCtorEq]
  obtain ⟨j, k, hj, hk, rfl, rfl⟩ := CS_ix hS h1 h2 h3 h4
  have h6 := sb7 hS.2 0
  rw [show vp_in (nI j * nI 12 + nI k) 72 = True by simp (disch := omega) only [↓reduceIte, nadd, nmul, nsub, nlt, neq, ncl, nvi, ndiv, nrem, nand, nor, nxor, nshl, nshr], true_and]
  by_cases h5 : nI 0 < I 13 (nI j * nI 12 + nI k).toNatClampNeg <;> simp only [h5, exI, exJ, exV, eq_self, true_and, and_true, true_or, or_true, if_true, if_false, not_true, not_false_eq_true, false_and, and_false, decide_true, decide_false, bi_T, bi_F, bi_0, bi_1, bi_z, bft, n10, n01, Nat.reduceEqDiff, Nat.reduceLT, Nat.reduceAdd, Nat.reduceMul, reduceCtorEq]
theorem onI_n (hS : CS S I) {f b : Nat} (hf : f < 2147483648) (hb : b < 12) : onI I (nI f) (nI b) = sOn S f b := by
  have h6 := sb7 hS.2 0
  unfold onI sOn
  rw [cs7 hS]
  by_cases h : f < S 7 0
  · have e : (nI f * nI 12 + nI b).toNatClampNeg = f * 12 + b := by simp (disch := omega) only [↓reduceIte, nadd, nmul, nsub, nlt, neq, ncl, nvi, ndiv, nrem, nand, nor, nxor, nshl, nshr]
    rw [e]
    simp (disch := first | omega | exact l13 hS _ | exact l11 hS _ | exact l12 hS _ | exact l10 hS _ | exact l8 hS _ | exact l9 hS _ | exact l7 hS _) only [cs7 hS, cs8 hS, cs9 hS, cs10 hS, cs11 hS, cs12 hS, cs13 hS, ↓reduceIte, nadd, nmul, nsub, nlt, neq, ncl, nvi, ndiv, nrem, nand, nor, nxor, nshl, nshr, h, hb, Nat.not_lt_zero, not_false_eq_true, true_and]
  · simp (disch := omega) only [↓reduceIte, nadd, nmul, nsub, nlt, neq, ncl, nvi, ndiv, nrem, nand, nor, nxor, nshl, nshr, h, and_false, false_and]
theorem hasI_n (hS : CS S I) {f : Nat} (hf : f < 2147483648) : hasI I (nI f) = decide (f < S 7 0) := by
  have h6 := sb7 hS.2 0
  unfold hasI
  rw [cs7 hS]
  simp (disch := omega) only [↓reduceIte, nadd, nmul, nsub, nlt, neq, ncl, nvi, ndiv, nrem, nand, nor, nxor, nshl, nshr, Nat.not_lt_zero, not_false_eq_true, true_and]
theorem c_isOnN (hg : Geo g) (hS : CS S I) {f b : Nat} (hf : f < 2147483648) (hb : b < 12) : a_call aTab aMX (d + 1) m_Scene_isOn [.ref 7, .int (nI f), .int (nI b)] (g, I, J) Q = Q (some (.int (bi (sOn S f b)))) (g, I, J) := by
  rw [c_isOn hg hS, onI_n hS hf hb]
theorem c_depth (hg : Geo g) (hS : CS S I) {f b : Nat} (hf : f < 6) (hb : b < 12) : a_call aTab aMX (d + 2) m_Scene_depth [.ref 7, .int (nI f), .int (nI b)] (g, I, J) Q = Q (some (.int (nI (sDp S f b)))) (g, I, J) := by
  simp (disch := first | omega | exact l13 hS _ | exact l11 hS _ | exact l12 hS _ | exact l10 hS _ | exact l8 hS _ | exact l9 hS _ | exact l7 hS _) only [e_Scene_depth, b_Scene_depth_0 hg, b_Scene_depth_6, b_Scene_depth_9 hg, b_Scene_depth_32, b_Scene_depth_33, c_isOnN hg hS, exI, exJ, exV, eq_self, true_and, and_true, true_or, or_true, if_true, if_false, not_true, not_false_eq_true, false_and, and_false, decide_true, decide_false, bi_T, bi_F, bi_0, bi_1, bi_z, bft, n10, n01, Nat.reduceEqDiff, Nat.reduceLT, Nat.reduceAdd, Nat.reduceMul, reduceCtorEq, ↓reduceIte, nadd, nmul, nsub, nlt, neq, ncl, nvi, ndiv, nrem, nand, nor, nxor, nshl, nshr, cs7 hS, cs8 hS, cs9 hS, cs10 hS, cs11 hS, cs12 hS, cs13 hS, sDp]
  by_cases h1 : sOn S f b = true
  · by_cases h2 : S 10 0 < S 13 (f * 12 + b)
    · simp only [h1, h2, if_true, Bool.true_eq_false, if_false]
      rw [Nat.min_eq_right (by omega)]
    · simp only [h1, h2, if_true, Bool.true_eq_false, if_false]
      rw [Nat.min_eq_left (by omega)]
  · simp only [h1, if_true, Bool.false_eq_true, if_false]
theorem onb_lt (S : Nat → Nat → Nat) (b : Nat) : ∀ k, onb S b k < 2 ^ k
  | 0 => Nat.zero_lt_one
  | k + 1 => by
    have h := onb_lt S b k
    have h2 : 2 ^ k < 2 ^ (k + 1) := Nat.pow_lt_pow_right (by decide) (by omega)
    unfold onb
    split
    · exact Nat.or_lt_two_pow (by omega) (by rw [Nat.one_shiftLeft]; exact h2)
    · omega
theorem c_onBits (hg : Geo g) (hS : CS S I) {b : Nat} (hb : b < 12) : a_call aTab aMX (d + 2) m_Scene_onBits [.ref 7, .int (nI b)] (g, I, J) Q = Q (some (.int (nI (sOns S b)))) (g, I, J) := by
  rw [e_Scene_onBits, b_Scene_onBits_0]
  have h6 := sb7 hS.2 0
  refine dn (P := fun k => a_wp aTab aMX (d + 1) m_Scene_onBits 4 [.ref 7, .int (nI b), .int (nI (onb S b k)), .int (nI k)] [] (g, I, J) Q = Q (some (.int (nI (sOns S b)))) (g, I, J)) (n := S 7 0) ?_ ?_ 0 (by omega)
  · simp (disch := first | omega | exact l13 hS _ | exact l11 hS _ | exact l12 hS _ | exact l10 hS _ | exact l8 hS _ | exact l9 hS _ | exact l7 hS _) only [b_Scene_onBits_0, b_Scene_onBits_4 hg, b_Scene_onBits_12 hg, b_Scene_onBits_18, b_Scene_onBits_21, b_Scene_onBits_27, b_Scene_onBits_33, cs7 hS, cs8 hS, cs9 hS, cs10 hS, cs11 hS, cs12 hS, cs13 hS, ↓reduceIte, nadd, nmul, nsub, nlt, neq, ncl, nvi, ndiv, nrem, nand, nor, nxor, nshl, nshr, Nat.lt_irrefl, if_false]
    rfl
  · intro k hk ih
    simp (disch := first | omega | exact l13 hS _ | exact l11 hS _ | exact l12 hS _ | exact l10 hS _ | exact l8 hS _ | exact l9 hS _ | exact l7 hS _) only [b_Scene_onBits_4 hg, cs7 hS, cs8 hS, cs9 hS, cs10 hS, cs11 hS, cs12 hS, cs13 hS, ↓reduceIte, nadd, nmul, nsub, nlt, neq, ncl, nvi, ndiv, nrem, nand, nor, nxor, nshl, nshr, hk, if_true]
    simp (disch := first | omega | exact l13 hS _ | exact l11 hS _ | exact l12 hS _ | exact l10 hS _ | exact l8 hS _ | exact l9 hS _ | exact l7 hS _) only [b_Scene_onBits_0, b_Scene_onBits_12 hg, b_Scene_onBits_18, b_Scene_onBits_21, b_Scene_onBits_27, b_Scene_onBits_33, c_isOnN hg hS, exI, exJ, exV, eq_self, true_and, and_true, true_or, or_true, if_true, if_false, not_true, not_false_eq_true, false_and, and_false, decide_true, decide_false, bi_T, bi_F, bi_0, bi_1, bi_z, bft, n10, n01, Nat.reduceEqDiff, Nat.reduceLT, Nat.reduceAdd, Nat.reduceMul, reduceCtorEq, ↓reduceIte, nadd, nmul, nsub, nlt, neq, ncl, nvi, ndiv, nrem, nand, nor, nxor, nshl, nshr]
    unfold onb at ih
    by_cases h1 : sOn S k b = true
    · simp only [h1, if_true] at ih
      simp only [h1, Bool.true_eq_false, if_false]
      exact ih
    · simp only [h1, if_false] at ih
      simp only [h1, if_true]
      exact ih
theorem c_put (hg : Geo g) {f b : Nat} {x y z : Int32} (hf : f < 6) (hb : b < 12) : a_call aTab aMX (d + 2) m_Scene_put [.ref 7, .int (nI f), .int (nI b), .int x, .int y, .int z] (g, I, J) Q = Q none (g, put3 I (f * 12 + b) x y z, J) := by
  have h1 : beI (nI b) = true := by unfold beI; simp (disch := omega) only [↓reduceIte, nadd, nmul, nsub, nlt, neq, ncl, nvi, ndiv, nrem, nand, nor, nxor, nshl, nshr, hb, Nat.not_lt_zero, not_false_eq_true, true_and, decide_true]
  simp (disch := omega) only [e_Scene_put, b_Scene_put_0, b_Scene_put_4, b_Scene_put_10, b_Scene_put_14, b_Scene_put_17, b_Scene_put_18 hg, c_isBeat, h1, exI, exJ, exV, eq_self, true_and, and_true, true_or, or_true, if_true, if_false, not_true, not_false_eq_true, false_and, and_false, decide_true, decide_false, bi_T, bi_F, bi_0, bi_1, bi_z, bft, n10, n01, Nat.reduceEqDiff, Nat.reduceLT, Nat.reduceAdd, Nat.reduceMul, reduceCtorEq, ↓reduceIte, nadd, nmul, nsub, nlt, neq, ncl, nvi, ndiv, nrem, nand, nor, nxor, nshl, nshr, Nat.not_lt_zero, hf, Bool.true_eq_false, put3]
theorem c_stays (hg : Geo g) (hS : CS S I) {f b : Nat} (hf : f < 6) (hb : b < 12) : a_call aTab aMX (d + 2) m_Scene_stays [.ref 7, .int (nI f), .int (nI b)] (g, I, J) Q = Q (some (.int (bi (sStay S f b)))) (g, I, J) := by
  unfold sStay
  by_cases h0 : b = 0
  · subst h0
    simp (disch := omega) only [e_Scene_stays, b_Scene_stays_0, b_Scene_stays_4, b_Scene_stays_6 hg, b_Scene_stays_12, b_Scene_stays_15 hg, b_Scene_stays_23, b_Scene_stays_26, b_Scene_stays_28 hg, b_Scene_stays_52 hg, b_Scene_stays_69 hg, b_Scene_stays_86, b_Scene_stays_90, b_Scene_stays_91, exI, exJ, exV, eq_self, true_and, and_true, true_or, or_true, if_true, if_false, not_true, not_false_eq_true, false_and, and_false, decide_true, decide_false, bi_T, bi_F, bi_0, bi_1, bi_z, bft, n10, n01, Nat.reduceEqDiff, Nat.reduceLT, Nat.reduceAdd, Nat.reduceMul, reduceCtorEq, ↓reduceIte, nadd, nmul, nsub, nlt, neq, ncl, nvi, ndiv, nrem, nand, nor, nxor, nshl, nshr]
  · simp (disch := first | omega | exact l13 hS _ | exact l11 hS _ | exact l12 hS _ | exact l10 hS _ | exact l8 hS _ | exact l9 hS _ | exact l7 hS _) only [e_Scene_stays, b_Scene_stays_0, b_Scene_stays_4, b_Scene_stays_6 hg, b_Scene_stays_12, b_Scene_stays_15 hg, b_Scene_stays_23, b_Scene_stays_26, b_Scene_stays_28 hg, b_Scene_stays_52 hg, b_Scene_stays_69 hg, b_Scene_stays_86, b_Scene_stays_90, b_Scene_stays_91, c_isOnN hg hS, cs7 hS, cs8 hS, cs9 hS, cs10 hS, cs11 hS, cs12 hS, cs13 hS, exI, exJ, exV, eq_self, true_and, and_true, true_or, or_true, if_true, if_false, not_true, not_false_eq_true, false_and, and_false, decide_true, decide_false, bi_T, bi_F, bi_0, bi_1, bi_z, bft, n10, n01, Nat.reduceEqDiff, Nat.reduceLT, Nat.reduceAdd, Nat.reduceMul, reduceCtorEq, ↓reduceIte, nadd, nmul, nsub, nlt, neq, ncl, nvi, ndiv, nrem, nand, nor, nxor, nshl, nshr, h0, false_or]
    by_cases h1 : sOn S f b = true <;> by_cases h2 : sOn S f (b - 1) = true <;> by_cases h3 : S 11 (f * 12 + b) = S 11 (f * 12 + b - 1) <;> by_cases h4 : S 12 (f * 12 + b) = S 12 (f * 12 + b - 1) <;> by_cases h5 : S 13 (f * 12 + b) = S 13 (f * 12 + b - 1) <;> simp only [h1, h2, h3, h4, h5, exI, exJ, exV, eq_self, true_and, and_true, true_or, or_true, if_true, if_false, not_true, not_false_eq_true, false_and, and_false, decide_true, decide_false, bi_T, bi_F, bi_0, bi_1, bi_z, bft, n10, n01, Nat.reduceEqDiff, Nat.reduceLT, Nat.reduceAdd, Nat.reduceMul, reduceCtorEq, Bool.true_eq_false, Bool.false_eq_true]
theorem c_toldCells (hg : Geo g) : a_call aTab aMX (d + 2) m_Scene_toldCells [.ref 7] (g, I, J) Q = Q (some (.int (nI (tCells (I 14))))) (g, I, J) := by
  rw [e_Scene_toldCells, b_Scene_toldCells_0]
  refine dn (P := fun k => a_wp aTab aMX (d + 1) m_Scene_toldCells 4 [.ref 7, .int (nI (fb_sm (fun r => pcI (I 14 r)) k)), .int (nI k)] [] (g, I, J) Q = Q (some (.int (nI (tCells (I 14))))) (g, I, J)) (n := 16) ?_ ?_ 0 (by omega)
  · simp (disch := omega) only [b_Scene_toldCells_0, b_Scene_toldCells_4, b_Scene_toldCells_10 hg, b_Scene_toldCells_20, b_Scene_toldCells_28, ↓reduceIte, nadd, nmul, nsub, nlt, neq, ncl, nvi, ndiv, nrem, nand, nor, nxor, nshl, nshr, Nat.lt_irrefl, if_false, tCells]
  · intro k hk ih
    simp (disch := omega) only [b_Scene_toldCells_4, ↓reduceIte, nadd, nmul, nsub, nlt, neq, ncl, nvi, ndiv, nrem, nand, nor, nxor, nshl, nshr, hk, if_true]
    simp (disch := omega) only [b_Scene_toldCells_0, b_Scene_toldCells_10 hg, b_Scene_toldCells_20, b_Scene_toldCells_28, c_bitI, exI, exJ, exV, eq_self, true_and, and_true, true_or, or_true, if_true, if_false, not_true, not_false_eq_true, false_and, and_false, decide_true, decide_false, bi_T, bi_F, bi_0, bi_1, bi_z, bft, n10, n01, Nat.reduceEqDiff, Nat.reduceLT, Nat.reduceAdd, Nat.reduceMul, reduceCtorEq, ↓reduceIte, nadd, nmul, nsub, nlt, neq, ncl, nvi, ndiv, nrem, nand, nor, nxor, nshl, nshr]
    exact ih
end SC
