/-! ===== Scene: what its methods answer ===== -/
def hasI (I : Nat → Nat → Int32) (f : Int32) : Bool := decide (¬ f < nI 0 ∧ f < I 7 0)
def onI (I : Nat → Nat → Int32) (f b : Int32) : Bool := decide ((¬ f < nI 0 ∧ f < I 7 0) ∧ (¬ b < nI 0 ∧ b < nI 12) ∧ nI 0 < I 13 (f * nI 12 + b).toNatClampNeg)
def beI (b : Int32) : Bool := decide (¬ b < nI 0 ∧ b < nI 12)
/-- the numbers of a scene, by their rows -/
def SB (S : Nat → Nat → Nat) : Prop := S 7 0 ≤ 6 ∧ (∀ k, S 8 k < 256) ∧ (∀ k, S 9 k ≤ 2) ∧ (2 ≤ S 10 0 ∧ S 10 0 ≤ 32) ∧ (S 10 1 ≤ 16 ∧ S 10 2 ≤ 3 ∧ S 10 3 ≤ 1 ∧ S 10 4 ≤ 6 ∧ S 10 5 ≤ 31 ∧ S 10 6 ≤ 31) ∧ (∀ k, S 11 k ≤ 31) ∧ (∀ k, S 12 k ≤ 15) ∧ (∀ k, S 13 k ≤ 32) ∧ (∀ f, f < S 7 0 → 1 ≤ S 9 f)
def CS (S : Nat → Nat → Nat) (I : Nat → Nat → Int32) : Prop := (∀ a k, 7 ≤ a → a ≤ 13 → I a k = nI (S a k)) ∧ SB S
def sOn (S : Nat → Nat → Nat) (f b : Nat) : Bool := decide (f < S 7 0 ∧ 0 < S 13 (f * 12 + b))
section SC
variable {d : Nat} {g : aG} {I : Nat → Nat → Int32} {J : Nat → Nat → Int64} {Q : aQ} {S : Nat → Nat → Nat}
theorem c_isBeat (b : Int32) : a_call aTab aMX (d + 1) m_Cp_isBeat [.int b] (g, I, J) Q = Q (some (.int (bi (beI b)))) (g, I, J) := by
  simp only [e_Cp_isBeat, b_Cp_isBeat_0, b_Cp_isBeat_4, b_Cp_isBeat_10, b_Cp_isBeat_14, b_Cp_isBeat_15, beI]
  by_cases h1 : b < nI 0 <;> by_cases h2 : b < nI 12 <;> simp only [h1, h2, exI, exJ, exV, eq_self, true_and, and_true, true_or, or_true, if_true, if_false, not_true, not_false_eq_true, false_and, and_false, decide_true, decide_false, bi_T, bi_F, bi_0, bi_1, bi_z]
theorem c_has (hg : Geo g) (f : Int32) : a_call aTab aMX (d + 1) m_Scene_has [.ref 7, .int f] (g, I, J) Q = Q (some (.int (bi (hasI I f)))) (g, I, J) := by
  simp only [e_Scene_has, b_Scene_has_0, b_Scene_has_4 hg, b_Scene_has_12, b_Scene_has_16, b_Scene_has_17, hasI]
  by_cases h1 : f < nI 0 <;> by_cases h2 : f < I 7 0 <;> simp only [h1, h2, exI, exJ, exV, eq_self, true_and, and_true, true_or, or_true, if_true, if_false, not_true, not_false_eq_true, false_and, and_false, decide_true, decide_false, bi_T, bi_F, bi_0, bi_1, bi_z]
theorem CS_ix {f b : Int32} (hS : CS S I) (h1 : ¬ f < nI 0) (h2 : f < I 7 0) (h3 : ¬ b < nI 0) (h4 : b < nI 12) : ∃ j k, j < S 7 0 ∧ k < 12 ∧ f = nI j ∧ b = nI k := by
  rw [hS.1 7 0 (by decide) (by decide)] at h2
  have h6 := hS.2.1
  rcases nIx f (S 7 0) (by omega) with h | ⟨_, h⟩ | ⟨j, hj, rfl⟩
  · exact absurd h h1
  · exact absurd h2 h
  · rcases nIx b 12 (by omega) with h | ⟨_, h⟩ | ⟨k, hk, rfl⟩
    · exact absurd h h3
    · exact absurd h4 h
    · exact ⟨j, k, hj, hk, rfl, rfl⟩
theorem c_isOn (hg : Geo g) (hS : CS S I) (f b : Int32) : a_call aTab aMX (d + 1) m_Scene_isOn [.ref 7, .int f, .int b] (g, I, J) Q = Q (some (.int (bi (onI I f b)))) (g, I, J) := by
  simp only [e_Scene_isOn, b_Scene_isOn_0, b_Scene_isOn_4 hg, b_Scene_isOn_12, b_Scene_isOn_16, b_Scene_isOn_22 hg, b_Scene_isOn_36, b_Scene_isOn_40, b_Scene_isOn_41, onI]
  by_cases h1 : f < nI 0 <;> by_cases h2 : f < I 7 0 <;> by_cases h3 : b < nI 0 <;> by_cases h4 : b < nI 12 <;> simp only [h1, h2, h3, h4, exI, exJ, exV, eq_self, true_and, and_true, true_or, or_true, if_true, if_false, not_true, not_false_eq_true, false_and, and_false, decide_true, decide_false, bi_T, bi_F, bi_0, bi_1, bi_z]
  obtain ⟨j, k, hj, hk, rfl, rfl⟩ := CS_ix hS h1 h2 h3 h4
  have h6 := hS.2.1
  rw [show vp_in (nI j * nI 12 + nI k) 72 = True by simp (disch := omega) only [nadd, nmul, nsub, nlt, neq, ncl, nvi, ndiv, nrem, nand, nor, nxor, nshl, nshr], true_and]
  by_cases h5 : nI 0 < I 13 (nI j * nI 12 + nI k).toNatClampNeg <;> simp only [h5, exI, exJ, exV, eq_self, true_and, and_true, true_or, or_true, if_true, if_false, not_true, not_false_eq_true, false_and, and_false, decide_true, decide_false, bi_T, bi_F, bi_0, bi_1, bi_z]
theorem onI_n (hS : CS S I) {f b : Nat} (hf : f < 2147483648) (hb : b < 12) : onI I (nI f) (nI b) = sOn S f b := by
  have h6 := hS.2.1
  have h7 := hS.2.2.2.2.2.2.2.2.2.1
  unfold onI sOn
  rw [hS.1 7 0 (by decide) (by decide)]
  by_cases h : f < S 7 0
  · have h8 := h7 (f * 12 + b)
    have e : (nI f * nI 12 + nI b).toNatClampNeg = f * 12 + b := by simp (disch := omega) only [nadd, nmul, nsub, nlt, neq, ncl, nvi, ndiv, nrem, nand, nor, nxor, nshl, nshr]
    rw [e, hS.1 13 _ (by decide) (by decide)]
    simp (disch := omega) only [nadd, nmul, nsub, nlt, neq, ncl, nvi, ndiv, nrem, nand, nor, nxor, nshl, nshr, h, hb, Nat.not_lt_zero, not_false_eq_true, true_and]
  · simp (disch := omega) only [nadd, nmul, nsub, nlt, neq, ncl, nvi, ndiv, nrem, nand, nor, nxor, nshl, nshr, h, and_false, false_and]
theorem hasI_n (hS : CS S I) {f : Nat} (hf : f < 2147483648) : hasI I (nI f) = decide (f < S 7 0) := by
  have h6 := hS.2.1
  unfold hasI
  rw [hS.1 7 0 (by decide) (by decide)]
  simp (disch := omega) only [nadd, nmul, nsub, nlt, neq, ncl, nvi, ndiv, nrem, nand, nor, nxor, nshl, nshr, Nat.not_lt_zero, not_false_eq_true, true_and]
end SC
