/-! ===== the reference's small methods ===== -/
theorem wlt {x : Int32} {n : Nat} (h : n < 2147483648) : (x.toInt64 < lN n) = (x < nI n) := by
  rw [← nI_l h]
  exact propext (fa_wide_lt _ _)
theorem wgt {x : Int32} {n : Nat} (h : n < 2147483648) : (lN n < x.toInt64) = (nI n < x) := by
  rw [← nI_l h]
  exact propext (fa_wide_lt _ _)
theorem wfig {x : Int32} {n : Nat} (h : n < 2147483648) : (lN n - lN 1 < x.toInt64) = ¬ (x < nI n) := by
  have e1 : (lN n - lN 1).toInt = (n : Int) - 1 := by
    rw [fb_subL] <;> rw [lN_toInt h, lN_toInt (by decide)] <;> omega
  have e2 : x.toInt64.toInt = x.toInt := Int32.toInt_toInt64 x
  apply propext
  rw [fa_lt64, fa_lt, e1, e2, nI_toInt h]
  omega
theorem bt_nI {n k : Nat} (hk : k < 32) : bt (nI n) k = n.testBit k := by
  show (BitVec.ofNat 32 n).getLsbD k = n.testBit k
  rw [BitVec.getLsbD_ofNat]
  simp only [hk, decide_true, Bool.true_and]
theorem bt_sh (x : Int32) {k : Nat} (hk : k < 32) : (x >>> (nI k &&& 31)) &&& nI 1 = bi (bt x k) := by
  apply b_ext
  intro i hi
  rw [b_and, b_sshr k hk x hi]
  unfold bi
  rw [bt_nI hi, bt_nI hi]
  by_cases h : i = 0
  · subst h
    cases bt x k <;> simp [hk]
  · have : (1 : Nat).testBit i = false := by
      obtain ⟨j, rfl⟩ : ∃ j, i = j + 1 := ⟨i - 1, by omega⟩
      rw [Nat.testBit_succ]
      simp
    cases bt x k <;> simp [this]
theorem bi_inj {a b : Bool} : (bi a = bi b) = (a = b) := by cases a <;> cases b <;> simp only [bi] <;> decide
section MB
variable {d : Nat} {g : aG} {I : Nat → Nat → Int32} {J : Nat → Nat → Int64} {Q : aQ} {S : Nat → Nat → Nat}
theorem c_in (v lo hi : Int64) : a_call aTab aMX (d + 1) m_Mo_in [.long v, .long lo, .long hi] (g, I, J) Q = Q (some (.int (bi (decide (¬ v < lo ∧ ¬ hi < v))))) (g, I, J) := by
  simp only [e_Mo_in, b_Mo_in_0, b_Mo_in_6, b_Mo_in_13, b_Mo_in_17, b_Mo_in_18]
  by_cases h1 : v < lo <;> by_cases h2 : hi < v <;> simp only [h1, h2, exI, exJ, exV, eq_self, true_and, and_true, true_or, or_true, if_true, if_false, not_true, not_false_eq_true, false_and, and_false, decide_true, decide_false, bi_T, bi_F, bi_0, bi_1, bi_z, bft, n10, n01, Nat.reduceEqDiff, Nat.reduceLT, Nat.reduceAdd, Nat.reduceMul, reduceCtorEq]
theorem c_is (x : Int32) {k : Nat} (hk : k < 32) : a_call aTab aMX (d + 1) m_Mo_is [.int x, .int (nI k)] (g, I, J) Q = Q (some (.int (bi (bt x k)))) (g, I, J) := by
  simp only [e_Mo_is, b_Mo_is_0, b_Mo_is_9, b_Mo_is_13, b_Mo_is_14, bt_sh x hk]
  by_cases h1 : bt x k = true <;> simp (disch := omega) only [h1, exI, exJ, exV, eq_self, true_and, and_true, true_or, or_true, if_true, if_false, not_true, not_false_eq_true, false_and, and_false, decide_true, decide_false, bi_T, bi_F, bi_0, bi_1, bi_z, bft, n10, n01, Nat.reduceEqDiff, Nat.reduceLT, Nat.reduceAdd, Nat.reduceMul, reduceCtorEq, ↓reduceIte, nadd, nmul, nsub, nlt, neq, ncl, nvi, ndiv, nrem, nand, nor, nxor, nshl, nshr]
theorem c_mIsBeat (b : Int32) : a_call aTab aMX (d + 2) m_Mo_isBeat [.int b] (g, I, J) Q = Q (some (.int (bi (beI b)))) (g, I, J) := by
  simp (disch := omega) only [e_Mo_isBeat, b_Mo_isBeat_0, b_Mo_isBeat_9, c_in, wlt, wgt, exI, exJ, exV, eq_self, true_and, and_true, true_or, or_true, if_true, if_false, not_true, not_false_eq_true, false_and, and_false, decide_true, decide_false, bi_T, bi_F, bi_0, bi_1, bi_z, bft, n10, n01, Nat.reduceEqDiff, Nat.reduceLT, Nat.reduceAdd, Nat.reduceMul, reduceCtorEq]
  unfold beI
  have : (¬ nI 11 < b) = (b < nI 12) := by
    apply propext
    rw [fa_lt, fa_lt, nI_toInt (by decide), nI_toInt (by decide)]
    omega
  simp only [this, bft, exI, exJ, exV, eq_self, true_and, and_true, true_or, or_true, if_true, if_false, not_true, not_false_eq_true, false_and, and_false, decide_true, decide_false, bi_T, bi_F, bi_0, bi_1, bi_z, bft, n10, n01, Nat.reduceEqDiff, Nat.reduceLT, Nat.reduceAdd, Nat.reduceMul, reduceCtorEq]
theorem c_tellN (hg : Geo g) {v : Int32} (hv : ¬ v < nI 0) : a_call aTab aMX (d + 1) m_Mo_tell [.ref 89, .int v] (g, I, J) Q = Q (some (.int v)) (g, u2 (u2 I 89 1 (nI 0)) 89 36 (nI 0), J) := by
  simp only [e_Mo_tell, b_Mo_tell_0, b_Mo_tell_5, b_Mo_tell_9, b_Mo_tell_10 hg, b_Mo_tell_21, b_Mo_tell_25, b_Mo_tell_29, b_Mo_tell_30 hg, b_Mo_tell_37 hg, b_Mo_tell_48, hv, exI, exJ, exV, eq_self, true_and, and_true, true_or, or_true, if_true, if_false, not_true, not_false_eq_true, false_and, and_false, decide_true, decide_false, bi_T, bi_F, bi_0, bi_1, bi_z, bft, n10, n01, Nat.reduceEqDiff, Nat.reduceLT, Nat.reduceAdd, Nat.reduceMul, reduceCtorEq, ite_self]
theorem c_tellR (hg : Geo g) {v : Int32} {r : Nat} (hv : v = -(nI r)) (h1 : 1 ≤ r) (h2 : r < 7) (h3 : I 89 36 = nI 0 ∨ I 89 36 = nI 1) : a_call aTab aMX (d + 1) m_Mo_tell [.ref 89, .int v] (g, I, J) Q = Q (some (.int v)) (g, u2 (u2 I 89 1 v) 90 r (I 90 r + nI 1), J) := by
  have hn : -v = nI r := by rw [hv, Int32.neg_neg]
  have hl : v < nI 0 := by
    rw [hv, fa_lt, fb_negI (by rw [nI_toInt (by omega)]; omega), nI_toInt (by omega), nI_toInt (by decide)]
    omega
  have e : u2 (u2 I 89 1 v) 89 36 (I 89 36) = u2 I 89 1 v := by
    funext a k
    unfold u2
    by_cases q : a = 89 ∧ k = 36
    · rw [if_pos q, if_neg (by omega), q.1, q.2]
    · rw [if_neg q]
  have e2 : (u2 I 89 1 v) 90 r = I 90 r := u2_a (by decide)
  have e3 : (u2 I 89 1 v) 89 36 = I 89 36 := u2_k (by decide)
  rcases h3 with h3 | h3
  · rw [h3] at e e3
    simp (disch := omega) only [e_Mo_tell, b_Mo_tell_0, b_Mo_tell_5, b_Mo_tell_9, b_Mo_tell_10 hg, b_Mo_tell_21, b_Mo_tell_25, b_Mo_tell_29, b_Mo_tell_30 hg, b_Mo_tell_37 hg, b_Mo_tell_48, hl, hn, e3, e, e2, exI, exJ, exV, eq_self, true_and, and_true, true_or, or_true, if_true, if_false, not_true, not_false_eq_true, false_and, and_false, decide_true, decide_false, bi_T, bi_F, bi_0, bi_1, bi_z, bft, n10, n01, Nat.reduceEqDiff, Nat.reduceLT, Nat.reduceAdd, Nat.reduceMul, reduceCtorEq, ↓reduceIte, nadd, nmul, nsub, nlt, neq, ncl, nvi, ndiv, nrem, nand, nor, nxor, nshl, nshr]
  · rw [h3] at e e3
    simp (disch := omega) only [e_Mo_tell, b_Mo_tell_0, b_Mo_tell_5, b_Mo_tell_9, b_Mo_tell_10 hg, b_Mo_tell_21, b_Mo_tell_25, b_Mo_tell_29, b_Mo_tell_30 hg, b_Mo_tell_37 hg, b_Mo_tell_48, hl, hn, e3, e, e2, exI, exJ, exV, eq_self, true_and, and_true, true_or, or_true, if_true, if_false, not_true, not_false_eq_true, false_and, and_false, decide_true, decide_false, bi_T, bi_F, bi_0, bi_1, bi_z, bft, n10, n01, Nat.reduceEqDiff, Nat.reduceLT, Nat.reduceAdd, Nat.reduceMul, reduceCtorEq, ↓reduceIte, nadd, nmul, nsub, nlt, neq, ncl, nvi, ndiv, nrem, nand, nor, nxor, nshl, nshr, Nat.one_ne_zero]
theorem c_was (hg : Geo g) (v : Int32) : a_call aTab aMX (d + 1) m_Mo_was [.ref 89, .int v] (g, I, J) Q = Q (some (.int v)) (g, u2 (u2 I 89 1 (nI 0)) 89 36 (nI 0), J) := by
  simp only [e_Mo_was, b_Mo_was_0 hg, exI, exJ, exV, eq_self, true_and, and_true, true_or, or_true, if_true, if_false, not_true, not_false_eq_true, false_and, and_false, decide_true, decide_false, bi_T, bi_F, bi_0, bi_1, bi_z, bft, n10, n01, Nat.reduceEqDiff, Nat.reduceLT, Nat.reduceAdd, Nat.reduceMul, reduceCtorEq]
theorem c_change (hg : Geo g) {k : Nat} (hk : k < 1470) (v : Int32) : a_call aTab aMX (d + 2) m_Mo_change [.ref 89, .int (nI k), .int v] (g, I, J) Q = Q (some (.int (I 91 k))) (g, u2 (u2 (u2 I 91 k v) 89 1 (nI 0)) 89 36 (nI 0), J) := by
  simp (disch := omega) only [e_Mo_change, b_Mo_change_0 hg, b_Mo_change_19, c_was hg, exI, exJ, exV, eq_self, true_and, and_true, true_or, or_true, if_true, if_false, not_true, not_false_eq_true, false_and, and_false, decide_true, decide_false, bi_T, bi_F, bi_0, bi_1, bi_z, bft, n10, n01, Nat.reduceEqDiff, Nat.reduceLT, Nat.reduceAdd, Nat.reduceMul, reduceCtorEq, ↓reduceIte, nadd, nmul, nsub, nlt, neq, ncl, nvi, ndiv, nrem, nand, nor, nxor, nshl, nshr]
theorem c_term (hg : Geo g) {k : Nat} (hk : k < 7) : a_call aTab aMX (d + 1) m_Mo_term [.ref 89, .int (nI k)] (g, I, J) Q = Q (some (.int (I 91 (2 + k)))) (g, I, J) := by
  simp (disch := omega) only [e_Mo_term, b_Mo_term_0 hg, exI, exJ, exV, eq_self, true_and, and_true, true_or, or_true, if_true, if_false, not_true, not_false_eq_true, false_and, and_false, decide_true, decide_false, bi_T, bi_F, bi_0, bi_1, bi_z, bft, n10, n01, Nat.reduceEqDiff, Nat.reduceLT, Nat.reduceAdd, Nat.reduceMul, reduceCtorEq, ↓reduceIte, nadd, nmul, nsub, nlt, neq, ncl, nvi, ndiv, nrem, nand, nor, nxor, nshl, nshr]
theorem c_placeOf (hg : Geo g) {f b w : Nat} (hf : f < 6) (hb : b < 12) (hw : w < 4) : a_call aTab aMX (d + 1) m_Mo_placeOf [.ref 89, .int (nI f), .int (nI b), .int (nI w)] (g, I, J) Q = Q (some (.int (I 91 (64 + 4 * (12 * f + b) + w)))) (g, I, J) := by
  simp (disch := omega) only [e_Mo_placeOf, b_Mo_placeOf_0 hg, exI, exJ, exV, eq_self, true_and, and_true, true_or, or_true, if_true, if_false, not_true, not_false_eq_true, false_and, and_false, decide_true, decide_false, bi_T, bi_F, bi_0, bi_1, bi_z, bft, n10, n01, Nat.reduceEqDiff, Nat.reduceLT, Nat.reduceAdd, Nat.reduceMul, reduceCtorEq, ↓reduceIte, nadd, nmul, nsub, nlt, neq, ncl, nvi, ndiv, nrem, nand, nor, nxor, nshl, nshr]
theorem c_mPut (hg : Geo g) {f b : Nat} {o x y z : Int32} (hf : f < 6) (hb : b < 12) : a_call aTab aMX (d + 1) m_Mo_put [.ref 89, .int (nI f), .int (nI b), .int o, .int x, .int y, .int z] (g, I, J) Q = Q none (g, u2 (u2 (u2 (u2 I 91 (64 + 4 * (12 * f + b)) o) 91 (64 + 4 * (12 * f + b) + 1) x) 91 (64 + 4 * (12 * f + b) + 2) y) 91 (64 + 4 * (12 * f + b) + 3) z, J) := by
  simp (disch := omega) only [e_Mo_put, b_Mo_put_0 hg, exI, exJ, exV, eq_self, true_and, and_true, true_or, or_true, if_true, if_false, not_true, not_false_eq_true, false_and, and_false, decide_true, decide_false, bi_T, bi_F, bi_0, bi_1, bi_z, bft, n10, n01, Nat.reduceEqDiff, Nat.reduceLT, Nat.reduceAdd, Nat.reduceMul, reduceCtorEq, ↓reduceIte, nadd, nmul, nsub, nlt, neq, ncl, nvi, ndiv, nrem, nand, nor, nxor, nshl, nshr]
set_option maxRecDepth 10000 in
theorem c_bits (x : Int32) : a_call aTab aMX (d + 1) m_Mo_bits [.int x] (g, I, J) Q = Q (some (.int (nI (pcI x)))) (g, I, J) := by
  rw [e_Mo_bits, b_Mo_bits_0]
  refine dn (P := fun k => a_wp aTab aMX d m_Mo_bits 4 [.int x, .int (nI (fb_ct (bt x) k)), .int (nI k)] [] (g, I, J) Q = Q (some (.int (nI (pcI x)))) (g, I, J)) (n := 32) ?_ ?_ 0 (by omega)
  · simp (disch := omega) only [b_Mo_bits_0, b_Mo_bits_4, b_Mo_bits_10, b_Mo_bits_24, ↓reduceIte, nadd, nmul, nsub, nlt, neq, ncl, nvi, ndiv, nrem, nand, nor, nxor, nshl, nshr, Nat.lt_irrefl, if_false, pcI]
  · intro k hk ih
    rw [fb_ct_succ] at ih
    have e : (if bt x k = true then 1 else 0) = (bt x k).toNat := by cases bt x k <;> rfl
    rw [e] at ih
    simp (disch := omega) only [b_Mo_bits_4, ↓reduceIte, nadd, nmul, nsub, nlt, neq, ncl, nvi, ndiv, nrem, nand, nor, nxor, nshl, nshr, hk, if_true]
    rw [b_Mo_bits_10, bt_sh x hk]
    unfold bi
    simp (disch := omega) only [↓reduceIte, nadd, nmul, nsub, nlt, neq, ncl, nvi, ndiv, nrem, nand, nor, nxor, nshl, nshr]
    exact ih
end MB
/-- the reference's row tells the same scene -/
def MS (S : Nat → Nat → Nat) (T : Nat → Int32) (W : Nat → Int32) : Prop := W 0 = nI (S 7 0) ∧ (∀ i, i < 7 → W (2 + i) = nI (S 10 i)) ∧ (∀ f, f < 6 → W (10 + f) = nI (S 9 f)) ∧ (∀ k, k < 48 → W (16 + k) = nI (S 8 k)) ∧ (∀ p, p < 72 → W (64 + 4 * p) = nI (if 0 < S 13 p then 1 else 0)) ∧ (∀ p, p < 72 → 0 < S 13 p → W (64 + 4 * p + 1) = nI (S 11 p) ∧ W (64 + 4 * p + 2) = nI (S 12 p)) ∧ (∀ p, p < 72 → W (64 + 4 * p + 3) = nI (S 13 p)) ∧ (∀ r, r < 16 → W (352 + r) = T r)
section MSs
variable {S : Nat → Nat → Nat} {T W : Nat → Int32}
theorem ms0 (h : MS S T W) : W 0 = nI (S 7 0) := h.1
theorem ms2 (h : MS S T W) {i : Nat} (hi : i < 7) : W (2 + i) = nI (S 10 i) := h.2.1 i hi
theorem ms2r (h : MS S T W) {i : Nat} (hi : i < 7) : W (i + 2) = nI (S 10 i) := by rw [Nat.add_comm]; exact h.2.1 i hi
theorem ms10 (h : MS S T W) {f : Nat} (hf : f < 6) : W (10 + f) = nI (S 9 f) := h.2.2.1 f hf
theorem ms16 (h : MS S T W) {k : Nat} (hk : k < 48) : W (16 + k) = nI (S 8 k) := h.2.2.2.1 k hk
theorem mp0 (h : MS S T W) {f b : Nat} (hf : f < 6) (hb : b < 12) : W (64 + 4 * (12 * f + b) + 0) = nI (if 0 < S 13 (f * 12 + b) then 1 else 0) := by
  rw [Nat.add_zero, Nat.mul_comm 12 f]
  exact h.2.2.2.2.1 (f * 12 + b) (by omega)
theorem mp1 (h : MS S T W) {f b : Nat} (hf : f < 6) (hb : b < 12) (ho : 0 < S 13 (f * 12 + b)) : W (64 + 4 * (12 * f + b) + 1) = nI (S 11 (f * 12 + b)) := by
  rw [Nat.mul_comm 12 f]
  exact (h.2.2.2.2.2.1 (f * 12 + b) (by omega) ho).1
theorem mp2 (h : MS S T W) {f b : Nat} (hf : f < 6) (hb : b < 12) (ho : 0 < S 13 (f * 12 + b)) : W (64 + 4 * (12 * f + b) + 2) = nI (S 12 (f * 12 + b)) := by
  rw [Nat.mul_comm 12 f]
  exact (h.2.2.2.2.2.1 (f * 12 + b) (by omega) ho).2
theorem mp3 (h : MS S T W) {f b : Nat} (hf : f < 6) (hb : b < 12) : W (64 + 4 * (12 * f + b) + 3) = nI (S 13 (f * 12 + b)) := by
  rw [Nat.mul_comm 12 f]
  exact h.2.2.2.2.2.2.1 (f * 12 + b) (by omega)
theorem ms352 (h : MS S T W) {r : Nat} (hr : r < 16) : W (352 + r) = T r := h.2.2.2.2.2.2.2 r hr
end MSs
def hasS (S : Nat → Nat → Nat) (f : Int32) : Bool := decide (¬ f < nI 0 ∧ f < nI (S 7 0))
theorem hasS_n {S : Nat → Nat → Nat} (hB : SB S) {f : Nat} (hf : f < 2147483648) : hasS S (nI f) = decide (f < S 7 0) := by
  have h6 := sb7 hB 0
  unfold hasS
  simp (disch := omega) only [↓reduceIte, nadd, nmul, nsub, nlt, neq, ncl, nvi, ndiv, nrem, nand, nor, nxor, nshl, nshr, Nat.not_lt_zero, not_false_eq_true, true_and]
theorem hasS_I {S : Nat → Nat → Nat} {I : Nat → Nat → Int32} (hS : CS S I) (f : Int32) : hasI I f = hasS S f := by
  unfold hasI hasS
  rw [cs7 hS]
def mDp (S : Nat → Nat → Nat) (f b : Nat) : Nat := min (S 13 (f * 12 + b)) (S 10 0)
section MB2
variable {d : Nat} {g : aG} {I : Nat → Nat → Int32} {J : Nat → Nat → Int64} {Q : aQ} {S : Nat → Nat → Nat} {T : Nat → Int32}
theorem c_isFigure (hg : Geo g) (hB : SB S) (hM : MS S T (I 91)) (f : Int32) : a_call aTab aMX (d + 2) m_Mo_isFigure [.ref 89, .int f] (g, I, J) Q = Q (some (.int (bi (hasS S f)))) (g, I, J) := by
  have h6 := sb7 hB 0
  simp (disch := omega) only [e_Mo_isFigure, b_Mo_isFigure_0 hg, b_Mo_isFigure_15, c_in, wlt, exI, exJ, exV, eq_self, true_and, and_true, true_or, or_true, if_true, if_false, not_true, not_false_eq_true, false_and, and_false, decide_true, decide_false, bi_T, bi_F, bi_0, bi_1, bi_z, bft, n10, n01, Nat.reduceEqDiff, Nat.reduceLT, Nat.reduceAdd, Nat.reduceMul, reduceCtorEq, ↓reduceIte, nadd, nmul, nsub, nlt, neq, ncl, nvi, ndiv, nrem, nand, nor, nxor, nshl, nshr, ms0 hM, nI_l, wfig, hasS, Classical.not_not]
theorem c_mIsOn (hg : Geo g) (hB : SB S) (hM : MS S T (I 91)) {f b : Nat} (hf : f < 2147483648) (hb : b < 12) : a_call aTab aMX (d + 3) m_Mo_isOn [.ref 89, .int (nI f), .int (nI b)] (g, I, J) Q = Q (some (.int (bi (sOn S f b)))) (g, I, J) := by
  have h6 := sb7 hB 0
  unfold sOn
  by_cases h : f < S 7 0
  · simp (disch := omega) only [e_Mo_isOn, b_Mo_isOn_0 hg, b_Mo_isOn_5, b_Mo_isOn_8 hg, b_Mo_isOn_15, b_Mo_isOn_19, b_Mo_isOn_23, b_Mo_isOn_24, c_isFigure hg hB hM, hasS_n hB, c_placeOf hg, mp0 hM, h, exI, exJ, exV, eq_self, true_and, and_true, true_or, or_true, if_true, if_false, not_true, not_false_eq_true, false_and, and_false, decide_true, decide_false, bi_T, bi_F, bi_0, bi_1, bi_z, bft, n10, n01, Nat.reduceEqDiff, Nat.reduceLT, Nat.reduceAdd, Nat.reduceMul, reduceCtorEq]
    by_cases h2 : 0 < S 13 (f * 12 + b) <;> simp (disch := omega) only [h2, exI, exJ, exV, eq_self, true_and, and_true, true_or, or_true, if_true, if_false, not_true, not_false_eq_true, false_and, and_false, decide_true, decide_false, bi_T, bi_F, bi_0, bi_1, bi_z, bft, n10, n01, Nat.reduceEqDiff, Nat.reduceLT, Nat.reduceAdd, Nat.reduceMul, reduceCtorEq, ↓reduceIte, nadd, nmul, nsub, nlt, neq, ncl, nvi, ndiv, nrem, nand, nor, nxor, nshl, nshr]
  · simp (disch := omega) only [e_Mo_isOn, b_Mo_isOn_0 hg, b_Mo_isOn_5, b_Mo_isOn_8 hg, b_Mo_isOn_15, b_Mo_isOn_19, b_Mo_isOn_23, b_Mo_isOn_24, c_isFigure hg hB hM, hasS_n hB, h, exI, exJ, exV, eq_self, true_and, and_true, true_or, or_true, if_true, if_false, not_true, not_false_eq_true, false_and, and_false, decide_true, decide_false, bi_T, bi_F, bi_0, bi_1, bi_z, bft, n10, n01, Nat.reduceEqDiff, Nat.reduceLT, Nat.reduceAdd, Nat.reduceMul, reduceCtorEq]
theorem c_mIsOnX (hg : Geo g) (hB : SB S) (hM : MS S T (I 91)) {f : Int32} {b : Nat} (hf : hasS S f = false) : a_call aTab aMX (d + 3) m_Mo_isOn [.ref 89, .int f, .int (nI b)] (g, I, J) Q = Q (some (.int (nI 0))) (g, I, J) := by
  simp (disch := omega) only [e_Mo_isOn, b_Mo_isOn_0 hg, b_Mo_isOn_5, b_Mo_isOn_8 hg, b_Mo_isOn_15, b_Mo_isOn_19, b_Mo_isOn_23, b_Mo_isOn_24, c_isFigure hg hB hM, hf, exI, exJ, exV, eq_self, true_and, and_true, true_or, or_true, if_true, if_false, not_true, not_false_eq_true, false_and, and_false, decide_true, decide_false, bi_T, bi_F, bi_0, bi_1, bi_z, bft, n10, n01, Nat.reduceEqDiff, Nat.reduceLT, Nat.reduceAdd, Nat.reduceMul, reduceCtorEq]
theorem c_deepOf (hg : Geo g) (hB : SB S) (hM : MS S T (I 91)) {f b : Nat} (hf : f < 6) (hb : b < 12) : a_call aTab aMX (d + 2) m_Mo_deepOf [.ref 89, .int (nI f), .int (nI b)] (g, I, J) Q = Q (some (.int (nI (mDp S f b)))) (g, I, J) := by
  have h1 := sb13 hB (f * 12 + b)
  have h2 := sb10 hB
  unfold mDp
  simp (disch := omega) only [e_Mo_deepOf, b_Mo_deepOf_0 hg, b_Mo_deepOf_7 hg, b_Mo_deepOf_14, b_Mo_deepOf_17 hg, b_Mo_deepOf_22, b_Mo_deepOf_25, b_Mo_deepOf_26, c_placeOf hg, c_term hg, mp3 hM, ms2 hM, ms2r hM, exI, exJ, exV, eq_self, true_and, and_true, true_or, or_true, if_true, if_false, not_true, not_false_eq_true, false_and, and_false, decide_true, decide_false, bi_T, bi_F, bi_0, bi_1, bi_z, bft, n10, n01, Nat.reduceEqDiff, Nat.reduceLT, Nat.reduceAdd, Nat.reduceMul, reduceCtorEq, ↓reduceIte, nadd, nmul, nsub, nlt, neq, ncl, nvi, ndiv, nrem, nand, nor, nxor, nshl, nshr]
  by_cases h : S 10 0 < S 13 (f * 12 + b)
  · simp only [h, exI, exJ, exV, eq_self, true_and, and_true, true_or, or_true, if_true, if_false, not_true, not_false_eq_true, false_and, and_false, decide_true, decide_false, bi_T, bi_F, bi_0, bi_1, bi_z, bft, n10, n01, Nat.reduceEqDiff, Nat.reduceLT, Nat.reduceAdd, Nat.reduceMul, reduceCtorEq]
    rw [Nat.min_eq_right (by omega)]
  · simp only [h, exI, exJ, exV, eq_self, true_and, and_true, true_or, or_true, if_true, if_false, not_true, not_false_eq_true, false_and, and_false, decide_true, decide_false, bi_T, bi_F, bi_0, bi_1, bi_z, bft, n10, n01, Nat.reduceEqDiff, Nat.reduceLT, Nat.reduceAdd, Nat.reduceMul, reduceCtorEq]
    rw [Nat.min_eq_left (by omega)]
theorem c_mOnBits (hg : Geo g) (hB : SB S) (hM : MS S T (I 91)) {b : Nat} (hb : b < 12) : a_call aTab aMX (d + 4) m_Mo_onBits [.ref 89, .int (nI b)] (g, I, J) Q = Q (some (.int (nI (sOns S b)))) (g, I, J) := by
  rw [e_Mo_onBits, b_Mo_onBits_0]
  have h6 := sb7 hB 0
  refine dn (P := fun k => a_wp aTab aMX (d + 3) m_Mo_onBits 4 [.ref 89, .int (nI b), .int (nI (onb S b k)), .int (nI k)] [] (g, I, J) Q = Q (some (.int (nI (sOns S b)))) (g, I, J)) (n := S 7 0) ?_ ?_ 0 (by omega)
  · simp (disch := omega) only [b_Mo_onBits_0, b_Mo_onBits_4 hg, b_Mo_onBits_14 hg, b_Mo_onBits_21, b_Mo_onBits_24, b_Mo_onBits_30, b_Mo_onBits_31, b_Mo_onBits_39, ms0 hM, ↓reduceIte, nadd, nmul, nsub, nlt, neq, ncl, nvi, ndiv, nrem, nand, nor, nxor, nshl, nshr, exI, exJ, exV, eq_self, true_and, and_true, true_or, or_true, if_true, if_false, not_true, not_false_eq_true, false_and, and_false, decide_true, decide_false, bi_T, bi_F, bi_0, bi_1, bi_z, bft, n10, n01, Nat.reduceEqDiff, Nat.reduceLT, Nat.reduceAdd, Nat.reduceMul, reduceCtorEq, Nat.lt_irrefl, if_false]
    rfl
  · intro k hk ih
    simp (disch := omega) only [b_Mo_onBits_4 hg, ms0 hM, ↓reduceIte, nadd, nmul, nsub, nlt, neq, ncl, nvi, ndiv, nrem, nand, nor, nxor, nshl, nshr, hk, exI, exJ, exV, eq_self, true_and, and_true, true_or, or_true, if_true, if_false, not_true, not_false_eq_true, false_and, and_false, decide_true, decide_false, bi_T, bi_F, bi_0, bi_1, bi_z, bft, n10, n01, Nat.reduceEqDiff, Nat.reduceLT, Nat.reduceAdd, Nat.reduceMul, reduceCtorEq]
    simp (disch := omega) only [b_Mo_onBits_0, b_Mo_onBits_14 hg, b_Mo_onBits_21, b_Mo_onBits_24, b_Mo_onBits_30, b_Mo_onBits_31, b_Mo_onBits_39, c_mIsOn hg hB hM, exI, exJ, exV, eq_self, true_and, and_true, true_or, or_true, if_true, if_false, not_true, not_false_eq_true, false_and, and_false, decide_true, decide_false, bi_T, bi_F, bi_0, bi_1, bi_z, bft, n10, n01, Nat.reduceEqDiff, Nat.reduceLT, Nat.reduceAdd, Nat.reduceMul, reduceCtorEq, ↓reduceIte, nadd, nmul, nsub, nlt, neq, ncl, nvi, ndiv, nrem, nand, nor, nxor, nshl, nshr]
    unfold onb at ih
    by_cases h1 : sOn S k b = true
    · simp only [h1, if_true] at ih
      simp (disch := omega) only [h1, exI, exJ, exV, eq_self, true_and, and_true, true_or, or_true, if_true, if_false, not_true, not_false_eq_true, false_and, and_false, decide_true, decide_false, bi_T, bi_F, bi_0, bi_1, bi_z, bft, n10, n01, Nat.reduceEqDiff, Nat.reduceLT, Nat.reduceAdd, Nat.reduceMul, reduceCtorEq, ↓reduceIte, nadd, nmul, nsub, nlt, neq, ncl, nvi, ndiv, nrem, nand, nor, nxor, nshl, nshr]
      exact ih
    · simp only [h1, if_false] at ih
      simp (disch := omega) only [h1, exI, exJ, exV, eq_self, true_and, and_true, true_or, or_true, if_true, if_false, not_true, not_false_eq_true, false_and, and_false, decide_true, decide_false, bi_T, bi_F, bi_0, bi_1, bi_z, bft, n10, n01, Nat.reduceEqDiff, Nat.reduceLT, Nat.reduceAdd, Nat.reduceMul, reduceCtorEq, ↓reduceIte, nadd, nmul, nsub, nlt, neq, ncl, nvi, ndiv, nrem, nand, nor, nxor, nshl, nshr, Nat.or_zero]
      exact ih
end MB2
