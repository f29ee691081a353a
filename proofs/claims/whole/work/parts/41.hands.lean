/-! ===== who can hold what: the class ===== -/
def aB (p : Nat → Bool) : Nat → Bool
  | 0 => true
  | n + 1 => aB p n && p n
theorem aB_iff {p : Nat → Bool} : ∀ {n : Nat}, aB p n = true ↔ ∀ k, k < n → p k = true
  | 0 => ⟨fun _ k hk => absurd hk (by omega), fun _ => rfl⟩
  | n + 1 => by
    show (aB p n && p n) = true ↔ _
    rw [Bool.and_eq_true, aB_iff]
    constructor
    · rintro ⟨h1, h2⟩ k hk
      by_cases q : k = n
      · rw [q]; exact h2
      · exact h1 k (by omega)
    · intro h
      exact ⟨fun k hk => h k (by omega), h n (by omega)⟩
def adf (a b : Nat) : Nat := a - b + (b - a)
def near (S : Nat → Nat → Nat) (b f o : Nat) : Bool := decide (adf (S 11 (f * 12 + b)) (S 11 (o * 12 + b)) ≤ S 10 5 ∧ adf (mDp S f b) (mDp S o b) ≤ S 10 6)
def far (S : Nat → Nat → Nat) (b f o : Nat) : Bool := sOn S f b && (sOn S o b && !near S b f o)
def alw (S : Nat → Nat → Nat) (LF : aLF) (h b f : Nat) : Bool := sOn S f b && ((decide (h ≠ 3) || sStay S f b) && decide (tl LF 3 (env S f b h (-1)) 1 0 = 0))
def twoS (S : Nat → Nat → Nat) (s : Nat) : Nat := fb_ct (fun f => s.testBit f && decide (S 9 f = 2)) 6
def oneS (S : Nat → Nat → Nat) (s : Nat) : Nat := fb_ct (fun f => s.testBit f && !decide (S 9 f = 2)) 6
def hsf (S : Nat → Nat → Nat) (s : Nat) : Bool := decide (twoS S s ≤ 1 ∧ oneS S s ≤ (if twoS S s = 0 then 2 else 0) + S 10 3)
def tog (S : Nat → Nat → Nat) (b s : Nat) : Bool := aB (fun f => !s.testBit f || aB (fun o => !s.testBit o || near S b f o) 6) 6
def tgC (S : Nat → Nat → Nat) (b s : Nat) : Bool := aB (fun f => !s.testBit f || decide (bl (far S b f) 6 &&& s = 0)) 6
def canS (S : Nat → Nat → Nat) (LF : aLF) (h b s : Nat) : Bool := aB (fun f => !s.testBit f || alw S LF h b f) 6 && (if h = 3 then decide (fb_ct s.testBit 6 ≤ S 10 4) else (hsf S s && tog S b s))
theorem nabs {a b : Nat} (ha : a < 1000) (hb : b < 1000) : (if (0 : Int32) ≤ nI a - nI b then nI a - nI b else 0 - (nI a - nI b)) = nI (adf a b) := by
  unfold adf
  by_cases q : b ≤ a
  · rw [nsub q, if_pos (show (0 : Int32) ≤ nI (a - b) from (nI_leI (a := 0) (by omega) (by omega)).2 (by omega)), show b - a = 0 by omega, Nat.add_zero]
  · have h1 : nI a - nI b < 0 := pk_sneg (by omega) (by omega)
    rw [if_neg (fun z => Int32.lt_irrefl (Int32.lt_of_lt_of_le h1 z)), show a - b = 0 by omega, Nat.zero_add, ← nsub (show a ≤ b by omega)]
    rw [Int32.zero_sub, Int32.neg_sub]
theorem pc6 {n : Nat} (hn : n < 64) : pcI (nI n) = fb_ct n.testBit 6 := by
  unfold pcI
  rw [show 32 = 6 + 26 from rfl, fb_ct_split]
  have e : fb_ct (fun k => bt (nI n) (6 + k)) 26 = 0 := by
    rw [fb_ct_zero]
    intro k hk
    rw [bt_nI (by omega)]
    exact Nat.testBit_lt_two_pow (Nat.lt_of_lt_of_le (show n < 2 ^ 6 from hn) (Nat.pow_le_pow_right (by decide) (by omega)))
  rw [e, Nat.add_zero]
  exact fb_ct_cong (fun k hk => bt_nI (by omega))
theorem nandn {s a : Nat} (hs : s < 64) : nI s &&& (nI a ^^^ (-1 : Int32)) = nI (s &&& (63 ^^^ a)) := by
  apply b_ext
  intro i hi
  rw [b_and, b_xor, b_m1 i hi, bt_nI hi, bt_nI hi, bt_nI hi, Nat.testBit_and, Nat.testBit_xor, show (63 : Nat) = 2 ^ 6 - 1 from rfl, Nat.testBit_two_pow_sub_one]
  by_cases q : i < 6
  · rw [decide_eq_true q]
    cases s.testBit i <;> cases a.testBit i <;> rfl
  · have : s.testBit i = false := Nat.testBit_lt_two_pow (Nat.lt_of_lt_of_le (show s < 2 ^ 6 from hs) (Nat.pow_le_pow_right (by decide) (by omega)))
    rw [this]; rfl
theorem and64 {a b : Nat} (hb : b < 64) : a &&& b < 64 := Nat.and_lt_two_pow (n := 6) a hb
theorem and64l {a b : Nat} (ha : a < 64) : a &&& b < 64 := by rw [Nat.and_comm]; exact and64 ha
theorem and0 {a s : Nat} : a &&& s = 0 ↔ ∀ i, ¬ (a.testBit i = true ∧ s.testBit i = true) := by
  constructor
  · intro h i hi
    have : (a &&& s).testBit i = true := by rw [Nat.testBit_and, hi.1, hi.2]; rfl
    rw [h, Nat.zero_testBit] at this
    cases this
  · intro h
    apply Nat.eq_of_testBit_eq
    intro i
    rw [Nat.testBit_and, Nat.zero_testBit]
    have := h i
    cases h1 : a.testBit i
    · rfl
    · cases h2 : s.testBit i
      · rfl
      · exact absurd ⟨h1, h2⟩ this
theorem near_self (S : Nat → Nat → Nat) (b f : Nat) : near S b f f = true := by
  unfold near adf
  exact decide_eq_true (by omega)
/-- sets within what is allowed -/
theorem alw_sub {S : Nat → Nat → Nat} {LF : aLF} {h b s : Nat} (hs : s < 64) : (s &&& bl (alw S LF h b) 6 = s) ↔ aB (fun f => !s.testBit f || alw S LF h b f) 6 = true := by
  rw [sub_bit, aB_iff]
  constructor
  · intro z f hf
    cases q : s.testBit f
    · rfl
    · have := z f q
      rw [bl_bit, decide_eq_true hf, Bool.true_and] at this
      rw [this]; rfl
  · intro z i hi
    have hi6 := tb6 hs hi
    have := z i hi6
    rw [hi] at this
    rw [bl_bit, decide_eq_true hi6, Bool.true_and]
    exact this
theorem tgC_eq {S : Nat → Nat → Nat} {LF : aLF} {h b s : Nat} (hs : s < 64) (ha : aB (fun f => !s.testBit f || alw S LF h b f) 6 = true) : tgC S b s = tog S b s := by
  have hon : ∀ f, s.testBit f = true → sOn S f b = true := by
    intro f hf
    have := aB_iff.1 ha f (tb6 hs hf)
    rw [hf] at this
    unfold alw at this
    simp only [Bool.not_true, Bool.false_or, Bool.and_eq_true] at this
    exact this.1
  rw [Bool.eq_iff_iff]
  unfold tgC tog
  rw [aB_iff, aB_iff]
  constructor
  · intro z f hf
    have z := z f hf
    cases q : s.testBit f
    · rfl
    rw [q] at z
    simp only [Bool.not_true, Bool.false_or, decide_eq_true_eq] at z
    simp only [Bool.not_true, Bool.false_or]
    rw [aB_iff]
    intro o ho
    cases q2 : s.testBit o
    · rfl
    cases q3 : near S b f o
    · exfalso
      refine and0.1 z o ⟨?_, q2⟩
      rw [bl_bit, decide_eq_true ho]
      unfold far
      rw [hon f q, hon o q2, q3]; rfl
    · rfl
  · intro z f hf
    have z := z f hf
    cases q : s.testBit f
    · rfl
    rw [q] at z
    simp only [Bool.not_true, Bool.false_or] at z
    rw [aB_iff] at z
    simp only [Bool.not_true, Bool.false_or, decide_eq_true_eq]
    rw [and0]
    rintro o ⟨h1, h2⟩
    have ho := tb6 hs h2
    have z := z o ho
    rw [h2] at z
    simp only [Bool.not_true, Bool.false_or] at z
    rw [bl_bit, decide_eq_true ho] at h1
    unfold far at h1
    rw [z] at h1
    simp at h1
section HA
variable {d : Nat} {g : aG} {I : Nat → Nat → Int32} {J : Nat → Nat → Int64} {Q : aQ} {S : Nat → Nat → Nat} {LF : aLF}
theorem c_hForget (hg : Geo g) : a_call aTab aMX (d + 1) m_Hands_forget [.ref 36] (g, I, J) Q = Q none (g, fl2 I 39 0 12 (nI 0), J) := by
  rw [e_Hands_forget, b_Hands_forget_0]
  have e0 : fl2 I 39 0 0 (nI 0) = I := fl2_0
  rw [← e0]
  refine dn (P := fun k => a_wp aTab aMX d m_Hands_forget 2 [.ref 36, .int (nI k)] [] (g, fl2 I 39 0 k (nI 0), J) Q = Q none (g, fl2 (fl2 I 39 0 0 (nI 0)) 39 0 12 (nI 0), J)) (n := 12) ?_ ?_ 0 (by omega)
  · rw [e0]
    simp (disch := omega) only [b_Hands_forget_2, b_Hands_forget_21, ↓reduceIte, nadd, nmul, nsub, nlt, neq, ncl, nvi, ndiv, nrem, nand, nor, nxor, nshl, nshr, exI, exJ, exV, eq_self, true_and, and_true, true_or, or_true, if_true, if_false, not_true, not_false_eq_true, false_and, and_false, decide_true, decide_false, bi_T, bi_F, bi_0, bi_1, bi_z, bft, n10, n01, Nat.reduceEqDiff, Nat.reduceLT, Nat.reduceAdd, Nat.reduceMul, reduceCtorEq, Nat.lt_irrefl]
  · intro k hk2 ih
    rw [← fl2_s (by omega)] at ih
    rw [b_Hands_forget_2]
    simp (disch := omega) only [b_Hands_forget_8 hg, ↓reduceIte, nadd, nmul, nsub, nlt, neq, ncl, nvi, ndiv, nrem, nand, nor, nxor, nshl, nshr, exI, exJ, exV, eq_self, true_and, and_true, true_or, or_true, if_true, if_false, not_true, not_false_eq_true, false_and, and_false, decide_true, decide_false, bi_T, bi_F, bi_0, bi_1, bi_z, bft, n10, n01, Nat.reduceEqDiff, Nat.reduceLT, Nat.reduceAdd, Nat.reduceMul, reduceCtorEq, hk2]
    exact ih
theorem c_farFrom (hg : Geo g) (hS : CS S I) {f b : Nat} (hf : f < 6) (hb : b < 12) : a_call aTab aMX (d + 3) m_Hands_farFrom [.ref 36, .int (nI f), .int (nI b)] (g, I, J) Q = Q (some (.int (nI (bl (far S b f) 6)))) (g, I, J) := by
  rw [e_Hands_farFrom, b_Hands_farFrom_0]
  have ht := sb10 hS.2
  refine dn (P := fun k => ∀ v5 v6, a_wp aTab aMX (d + 2) m_Hands_farFrom 5 [.ref 36, .int (nI f), .int (nI b), .int (nI (bl (far S b f) k)), .int (nI k), v5, v6] [] (g, I, J) Q = Q (some (.int (nI (bl (far S b f) 6)))) (g, I, J)) (n := 6) ?_ ?_ 0 (by omega) _ _
  · intro v5 v6
    simp (disch := omega) only [b_Hands_farFrom_5, b_Hands_farFrom_143, ↓reduceIte, nadd, nmul, nsub, nlt, neq, ncl, nvi, ndiv, nrem, nand, nor, nxor, nshl, nshr, exI, exJ, exV, eq_self, true_and, and_true, true_or, or_true, if_true, if_false, not_true, not_false_eq_true, false_and, and_false, decide_true, decide_false, bi_T, bi_F, bi_0, bi_1, bi_z, bft, n10, n01, Nat.reduceEqDiff, Nat.reduceLT, Nat.reduceAdd, Nat.reduceMul, reduceCtorEq, Nat.lt_irrefl]
  · intro k hk ih v5 v6
    have h1 := sb11 hS.2 (f * 12 + b)
    have h2 := sb11 hS.2 (k * 12 + b)
    have h3 := sDp_le hS.2 f b
    have h4 := sDp_le hS.2 k b
    have e : bl (far S b f) (k + 1) = if far S b f k then bl (far S b f) k ||| 1 <<< k else bl (far S b f) k := rfl
    rw [e] at ih
    rw [b_Hands_farFrom_5]
    by_cases q1 : sOn S f b = true
    rotate_left
    · have : far S b f k = false := by unfold far; rw [Bool.eq_false_iff.2 q1]; rfl
      rw [this, if_neg (by decide)] at ih
      simp (disch := omega) only [b_Hands_farFrom_12 hg, b_Hands_farFrom_21, b_Hands_farFrom_137, ↓reduceIte, nadd, nmul, nsub, nlt, neq, ncl, nvi, ndiv, nrem, nand, nor, nxor, nshl, nshr, exI, exJ, exV, eq_self, true_and, and_true, true_or, or_true, if_true, if_false, not_true, not_false_eq_true, false_and, and_false, decide_true, decide_false, bi_T, bi_F, bi_0, bi_1, bi_z, bft, n10, n01, Nat.reduceEqDiff, Nat.reduceLT, Nat.reduceAdd, Nat.reduceMul, reduceCtorEq, hk, c_isOnN hg hS, q1]
      exact ih _ _
    by_cases q2 : sOn S k b = true
    rotate_left
    · have : far S b f k = false := by unfold far; rw [Bool.eq_false_iff.2 q2, Bool.false_and, Bool.and_false]
      rw [this, if_neg (by decide)] at ih
      simp (disch := omega) only [b_Hands_farFrom_12 hg, b_Hands_farFrom_21, b_Hands_farFrom_24 hg, b_Hands_farFrom_34, b_Hands_farFrom_137, ↓reduceIte, nadd, nmul, nsub, nlt, neq, ncl, nvi, ndiv, nrem, nand, nor, nxor, nshl, nshr, exI, exJ, exV, eq_self, true_and, and_true, true_or, or_true, if_true, if_false, not_true, not_false_eq_true, false_and, and_false, decide_true, decide_false, bi_T, bi_F, bi_0, bi_1, bi_z, bft, n10, n01, Nat.reduceEqDiff, Nat.reduceLT, Nat.reduceAdd, Nat.reduceMul, reduceCtorEq, hk, c_isOnN hg hS, q1, q2]
      exact ih _ _
    have ef : far S b f k = !near S b f k := by unfold far; rw [q1, q2]; rfl
    rw [sDp_on q1] at h3
    rw [sDp_on q2] at h4
    rw [ef] at ih
    unfold near at ih
    simp (disch := omega) only [b_Hands_farFrom_12 hg, b_Hands_farFrom_21, b_Hands_farFrom_24 hg, b_Hands_farFrom_34, b_Hands_farFrom_37 hg, b_Hands_farFrom_81 hg, ↓reduceIte, nadd, nmul, nsub, nlt, neq, ncl, nvi, ndiv, nrem, nand, nor, nxor, nshl, nshr, exI, exJ, exV, eq_self, true_and, and_true, true_or, or_true, if_true, if_false, not_true, not_false_eq_true, false_and, and_false, decide_true, decide_false, bi_T, bi_F, bi_0, bi_1, bi_z, bft, n10, n01, Nat.reduceEqDiff, Nat.reduceLT, Nat.reduceAdd, Nat.reduceMul, reduceCtorEq, hk, c_isOnN hg hS, q1, q2, cs7 hS, cs8 hS, cs9 hS, cs10 hS, cs11 hS, cs12 hS, cs13 hS, c_depth hg hS, sDp_on q1, sDp_on q2, nabs]
    have l1 : adf (S 11 (f * 12 + b)) (S 11 (k * 12 + b)) < 1000 := by unfold adf; omega
    have l2 : adf (mDp S f b) (mDp S k b) < 1000 := by unfold adf; omega
    rw [b_Hands_farFrom_91 hg]
    simp (disch := omega) only [↓reduceIte, nadd, nmul, nsub, nlt, neq, ncl, nvi, ndiv, nrem, nand, nor, nxor, nshl, nshr, exI, exJ, exV, eq_self, true_and, and_true, true_or, or_true, if_true, if_false, not_true, not_false_eq_true, false_and, and_false, decide_true, decide_false, bi_T, bi_F, bi_0, bi_1, bi_z, bft, n10, n01, Nat.reduceEqDiff, Nat.reduceLT, Nat.reduceAdd, Nat.reduceMul, reduceCtorEq, cs7 hS, cs8 hS, cs9 hS, cs10 hS, cs11 hS, cs12 hS, cs13 hS, nabs]
    by_cases p1 : S 10 5 < adf (S 11 (f * 12 + b)) (S 11 (k * 12 + b))
    · rw [decide_eq_false (by omega), Bool.not_false, if_pos rfl] at ih
      simp (disch := omega) only [b_Hands_farFrom_127, b_Hands_farFrom_135, b_Hands_farFrom_137, ↓reduceIte, nadd, nmul, nsub, nlt, neq, ncl, nvi, ndiv, nrem, nand, nor, nxor, nshl, nshr, exI, exJ, exV, eq_self, true_and, and_true, true_or, or_true, if_true, if_false, not_true, not_false_eq_true, false_and, and_false, decide_true, decide_false, bi_T, bi_F, bi_0, bi_1, bi_z, bft, n10, n01, Nat.reduceEqDiff, Nat.reduceLT, Nat.reduceAdd, Nat.reduceMul, reduceCtorEq, p1]
      exact ih _ _
    · by_cases p2 : S 10 6 < adf (mDp S f b) (mDp S k b)
      · rw [decide_eq_false (by omega), Bool.not_false, if_pos rfl] at ih
        simp (disch := omega) only [b_Hands_farFrom_112 hg, b_Hands_farFrom_127, b_Hands_farFrom_135, b_Hands_farFrom_137, ↓reduceIte, nadd, nmul, nsub, nlt, neq, ncl, nvi, ndiv, nrem, nand, nor, nxor, nshl, nshr, exI, exJ, exV, eq_self, true_and, and_true, true_or, or_true, if_true, if_false, not_true, not_false_eq_true, false_and, and_false, decide_true, decide_false, bi_T, bi_F, bi_0, bi_1, bi_z, bft, n10, n01, Nat.reduceEqDiff, Nat.reduceLT, Nat.reduceAdd, Nat.reduceMul, reduceCtorEq, p1, p2, cs7 hS, cs8 hS, cs9 hS, cs10 hS, cs11 hS, cs12 hS, cs13 hS]
        exact ih _ _
      · rw [decide_eq_true (by omega), Bool.not_true, if_neg (by decide)] at ih
        simp (disch := omega) only [b_Hands_farFrom_112 hg, b_Hands_farFrom_134, b_Hands_farFrom_135, b_Hands_farFrom_137, ↓reduceIte, nadd, nmul, nsub, nlt, neq, ncl, nvi, ndiv, nrem, nand, nor, nxor, nshl, nshr, exI, exJ, exV, eq_self, true_and, and_true, true_or, or_true, if_true, if_false, not_true, not_false_eq_true, false_and, and_false, decide_true, decide_false, bi_T, bi_F, bi_0, bi_1, bi_z, bft, n10, n01, Nat.reduceEqDiff, Nat.reduceLT, Nat.reduceAdd, Nat.reduceMul, reduceCtorEq, p1, p2, cs7 hS, cs8 hS, cs9 hS, cs10 hS, cs11 hS, cs12 hS, cs13 hS, Nat.or_zero]
        exact ih _ _
theorem c_allowedFor (hg : Geo g) (hS : CS S I) {W : Nat → Int32} (hL : LJ LF I W) {h b : Nat} (hh : h < 4) (hb : b < 12) (ho : I 38 b = nI (sOns S b)) (hQ : ∀ I' J', Fr [34] I I' → Fr [35] J J' → Q (some (.int (nI (bl (alw S LF h b) 6)))) (g, I', J')) : a_call aTab aMX (d + 4) m_Hands_allowedFor [.ref 36, .int (nI h), .int (nI b)] (g, I, J) Q := by
  rw [e_Hands_allowedFor, b_Hands_allowedFor_0]
  have ol := ons_lt hS.2 b
  have key : ∀ k, k ≤ 6 → ∀ I2 J2, Fr [34] I I2 → Fr [35] J J2 → a_wp aTab aMX (d + 3) m_Hands_allowedFor 5 [.ref 36, .int (nI h), .int (nI b), .int (nI (bl (alw S LF h b) k)), .int (nI k)] [] (g, I2, J2) Q := by
    refine dn ?_ ?_
    · intro I2 J2 f1 f2
      simp (disch := omega) only [b_Hands_allowedFor_5, b_Hands_allowedFor_85, ↓reduceIte, nadd, nmul, nsub, nlt, neq, ncl, nvi, ndiv, nrem, nand, nor, nxor, nshl, nshr, exI, exJ, exV, eq_self, true_and, and_true, true_or, or_true, if_true, if_false, not_true, not_false_eq_true, false_and, and_false, decide_true, decide_false, bi_T, bi_F, bi_0, bi_1, bi_z, bft, n10, n01, Nat.reduceEqDiff, Nat.reduceLT, Nat.reduceAdd, Nat.reduceMul, reduceCtorEq, Nat.lt_irrefl]
      exact hQ I2 J2 f1 f2
    · intro k hk ih I2 J2 f1 f2
      have hS2 := CS_Fr (by decide) f1 hS
      have hL2 := LJ_Fr (by decide) f1 hL
      have e38 : I2 38 b = nI (sOns S b) := by rw [Fr_at f1 38 (by decide)]; exact ho
      have eb : bl (alw S LF h b) (k + 1) = if alw S LF h b k then bl (alw S LF h b) k ||| 1 <<< k else bl (alw S LF h b) k := rfl
      rw [eb] at ih
      rw [b_Hands_allowedFor_5]
      simp (disch := omega) only [b_Hands_allowedFor_12 hg, ↓reduceIte, nadd, nmul, nsub, nlt, neq, ncl, nvi, ndiv, nrem, exI, exJ, exV, eq_self, true_and, and_true, true_or, or_true, if_true, if_false, not_true, not_false_eq_true, false_and, and_false, decide_true, decide_false, bi_T, bi_F, bi_0, bi_1, bi_z, bft, n10, n01, Nat.reduceEqDiff, Nat.reduceLT, Nat.reduceAdd, Nat.reduceMul, reduceCtorEq, hk, e38, bt_sh, bt_nI, ons_bit hS.2 hk]
      by_cases q1 : sOn S k b = true
      rotate_left
      · have : alw S LF h b k = false := by unfold alw; rw [Bool.eq_false_iff.2 q1]; rfl
        rw [this, if_neg (by decide)] at ih
        simp (disch := omega) only [b_Hands_allowedFor_79, ↓reduceIte, nadd, nmul, nsub, nlt, neq, ncl, nvi, ndiv, nrem, nand, nor, nxor, nshl, nshr, exI, exJ, exV, eq_self, true_and, and_true, true_or, or_true, if_true, if_false, not_true, not_false_eq_true, false_and, and_false, decide_true, decide_false, bi_T, bi_F, bi_0, bi_1, bi_z, bft, n10, n01, Nat.reduceEqDiff, Nat.reduceLT, Nat.reduceAdd, Nat.reduceMul, reduceCtorEq, q1]
        exact ih I2 J2 f1 f2
      simp (disch := omega) only [exI, exJ, exV, eq_self, true_and, and_true, true_or, or_true, if_true, if_false, not_true, not_false_eq_true, false_and, and_false, decide_true, decide_false, bi_T, bi_F, bi_0, bi_1, bi_z, bft, n10, n01, Nat.reduceEqDiff, Nat.reduceLT, Nat.reduceAdd, Nat.reduceMul, reduceCtorEq, q1]
      have rest : (decide (h ≠ 3) || sStay S k b) = true → a_wp aTab aMX (d + 3) m_Hands_allowedFor 47 [.ref 36, .int (nI h), .int (nI b), .int (nI (bl (alw S LF h b) k)), .int (nI k)] [] (g, I2, J2) Q := by
        intro hst
        have ea : alw S LF h b k = decide (tl LF 3 (env S k b h (-1)) 1 0 = 0) := by unfold alw; rw [q1, hst]; rfl
        rw [ea] at ih
        rw [b_Hands_allowedFor_47 hg, show (-1 : Int32) = iI (-1) by decide]
        refine c_turnTo hg hS2 q1 hb ?_
        intro I3 g1 g2
        refine ⟨rfl, ?_⟩
        rw [b_Hands_allowedFor_59 hg]
        refine c_tellLast hg (LJ_Fr (L := [34]) (by decide) (Fr_x (by decide) g1) hL2) (env_EB hS.2 (by omega) (by omega) (by omega) (by omega) (by omega)) g2 (by decide) (by decide) (by decide) ?_
        intro J3 g3
        refine ⟨_, rfl, ?_⟩
        have f3 : Fr [34] I I3 := Fr_tr f1 (Fr_x (by decide) g1)
        have f4 : Fr [35] J J3 := Fr_tr f2 (Fr_x (by decide) g3)
        have tl1 : tl LF 3 (env S k b h (-1)) 1 0 ≤ 1 := by
          unfold tl clp
          split <;> omega
        by_cases p : tl LF 3 (env S k b h (-1)) 1 0 = 0
        · rw [decide_eq_true p, if_pos rfl] at ih
          simp (disch := omega) only [b_Hands_allowedFor_69, b_Hands_allowedFor_72, b_Hands_allowedFor_79, ↓reduceIte, nadd, nmul, nsub, nlt, neq, ncl, nvi, ndiv, nrem, nand, nor, nxor, nshl, nshr, exI, exJ, exV, eq_self, true_and, and_true, true_or, or_true, if_true, if_false, not_true, not_false_eq_true, false_and, and_false, decide_true, decide_false, bi_T, bi_F, bi_0, bi_1, bi_z, bft, n10, n01, Nat.reduceEqDiff, Nat.reduceLT, Nat.reduceAdd, Nat.reduceMul, reduceCtorEq, p]
          exact ih I3 J3 f3 f4
        · rw [decide_eq_false p, if_neg (by decide)] at ih
          simp (disch := omega) only [b_Hands_allowedFor_69, b_Hands_allowedFor_79, ↓reduceIte, nadd, nmul, nsub, nlt, neq, ncl, nvi, ndiv, nrem, nand, nor, nxor, nshl, nshr, exI, exJ, exV, eq_self, true_and, and_true, true_or, or_true, if_true, if_false, not_true, not_false_eq_true, false_and, and_false, decide_true, decide_false, bi_T, bi_F, bi_0, bi_1, bi_z, bft, n10, n01, Nat.reduceEqDiff, Nat.reduceLT, Nat.reduceAdd, Nat.reduceMul, reduceCtorEq, p]
          exact ih I3 J3 f3 f4
      rw [b_Hands_allowedFor_26]
      by_cases p3 : h = 3
      · subst p3
        simp (disch := omega) only [b_Hands_allowedFor_31 hg, b_Hands_allowedFor_41, ↓reduceIte, nadd, nmul, nsub, nlt, neq, ncl, nvi, ndiv, nrem, nand, nor, nxor, nshl, nshr, exI, exJ, exV, eq_self, true_and, and_true, true_or, or_true, if_true, if_false, not_true, not_false_eq_true, false_and, and_false, decide_true, decide_false, bi_T, bi_F, bi_0, bi_1, bi_z, bft, n10, n01, Nat.reduceEqDiff, Nat.reduceLT, Nat.reduceAdd, Nat.reduceMul, reduceCtorEq, c_stays hg hS2]
        by_cases p4 : sStay S k b = true
        · simp only [p4, exI, exJ, exV, eq_self, true_and, and_true, true_or, or_true, if_true, if_false, not_true, not_false_eq_true, false_and, and_false, decide_true, decide_false, bi_T, bi_F, bi_0, bi_1, bi_z, bft, n10, n01, Nat.reduceEqDiff, Nat.reduceLT, Nat.reduceAdd, Nat.reduceMul, reduceCtorEq]
          exact rest (by rw [p4, Bool.or_true])
        · have : alw S LF 3 b k = false := by unfold alw; rw [q1, Bool.eq_false_iff.2 p4]; rfl
          rw [this, if_neg (by decide)] at ih
          simp (disch := omega) only [b_Hands_allowedFor_44, b_Hands_allowedFor_79, ↓reduceIte, nadd, nmul, nsub, nlt, neq, ncl, nvi, ndiv, nrem, nand, nor, nxor, nshl, nshr, exI, exJ, exV, eq_self, true_and, and_true, true_or, or_true, if_true, if_false, not_true, not_false_eq_true, false_and, and_false, decide_true, decide_false, bi_T, bi_F, bi_0, bi_1, bi_z, bft, n10, n01, Nat.reduceEqDiff, Nat.reduceLT, Nat.reduceAdd, Nat.reduceMul, reduceCtorEq, p4]
          exact ih I2 J2 f1 f2
      · simp (disch := omega) only [↓reduceIte, nadd, nmul, nsub, nlt, neq, ncl, nvi, ndiv, nrem, nand, nor, nxor, nshl, nshr, exI, exJ, exV, eq_self, true_and, and_true, true_or, or_true, if_true, if_false, not_true, not_false_eq_true, false_and, and_false, decide_true, decide_false, bi_T, bi_F, bi_0, bi_1, bi_z, bft, n10, n01, Nat.reduceEqDiff, Nat.reduceLT, Nat.reduceAdd, Nat.reduceMul, reduceCtorEq, p3]
        exact rest (by rw [decide_eq_true p3, Bool.true_or])
  exact key 0 (by omega) I J Fr_rf Fr_rf
theorem c_handsSuffice (hg : Geo g) (hS : CS S I) {s : Nat} (hs : s < 64) (h7 : I 36 7 = nI (bl (fun f => decide (S 9 f = 2)) 6)) : a_call aTab aMX (d + 2) m_Hands_handsSuffice [.ref 36, .int (nI s)] (g, I, J) Q = Q (some (.int (bi (hsf S s)))) (g, I, J) := by
  have ht := sb10 hS.2
  have e1 : fb_ct (s &&& bl (fun f => decide (S 9 f = 2)) 6).testBit 6 = twoS S s := fb_ct_cong (fun k hk => by rw [Nat.testBit_and, bl_bit, decide_eq_true hk, Bool.true_and])
  have e2 : fb_ct (s &&& (63 ^^^ bl (fun f => decide (S 9 f = 2)) 6)).testBit 6 = oneS S s := fb_ct_cong (fun k hk => by rw [Nat.testBit_and, Nat.testBit_xor, bl_bit, show (63 : Nat) = 2 ^ 6 - 1 from rfl, Nat.testBit_two_pow_sub_one, decide_eq_true hk, Bool.true_and, Bool.true_xor])
  have l1 : twoS S s ≤ 6 := fb_ct_le _ 6
  have l2 : oneS S s ≤ 6 := fb_ct_le _ 6
  rw [e_Hands_handsSuffice]
  simp (disch := first | omega | exact and64l hs) only [b_Hands_handsSuffice_0 hg, b_Hands_handsSuffice_9 hg, c_bitI, h7, nand, nandn, pc6, and64l, hs, e1, e2, exI, exJ, exV, eq_self, true_and, and_true, true_or, or_true, if_true, if_false, not_true, not_false_eq_true, false_and, and_false, decide_true, decide_false, bi_T, bi_F, bi_0, bi_1, bi_z, bft, n10, n01, Nat.reduceEqDiff, Nat.reduceLT, Nat.reduceAdd, Nat.reduceMul, reduceCtorEq]
  unfold hsf
  by_cases q1 : twoS S s = 0
  · have q2 : ¬ 1 < twoS S s := by omega
    by_cases q3 : 2 + S 10 3 < oneS S s
    · rw [decide_eq_false (by rw [if_pos q1]; omega)]
      simp (disch := omega) only [b_Hands_handsSuffice_21, b_Hands_handsSuffice_26, b_Hands_handsSuffice_31, b_Hands_handsSuffice_38 hg, b_Hands_handsSuffice_58, b_Hands_handsSuffice_59, ↓reduceIte, nadd, nmul, nsub, nlt, neq, ncl, nvi, ndiv, nrem, nand, nor, nxor, nshl, nshr, exI, exJ, exV, eq_self, true_and, and_true, true_or, or_true, if_true, if_false, not_true, not_false_eq_true, false_and, and_false, decide_true, decide_false, bi_T, bi_F, bi_0, bi_1, bi_z, bft, n10, n01, Nat.reduceEqDiff, Nat.reduceLT, Nat.reduceAdd, Nat.reduceMul, reduceCtorEq, cs7 hS, cs8 hS, cs9 hS, cs10 hS, cs11 hS, cs12 hS, cs13 hS, q1, q2, q3, Nat.not_lt_zero]
    · rw [decide_eq_true (by rw [if_pos q1]; omega)]
      simp (disch := omega) only [b_Hands_handsSuffice_21, b_Hands_handsSuffice_26, b_Hands_handsSuffice_31, b_Hands_handsSuffice_38 hg, b_Hands_handsSuffice_54, b_Hands_handsSuffice_59, ↓reduceIte, nadd, nmul, nsub, nlt, neq, ncl, nvi, ndiv, nrem, nand, nor, nxor, nshl, nshr, exI, exJ, exV, eq_self, true_and, and_true, true_or, or_true, if_true, if_false, not_true, not_false_eq_true, false_and, and_false, decide_true, decide_false, bi_T, bi_F, bi_0, bi_1, bi_z, bft, n10, n01, Nat.reduceEqDiff, Nat.reduceLT, Nat.reduceAdd, Nat.reduceMul, reduceCtorEq, cs7 hS, cs8 hS, cs9 hS, cs10 hS, cs11 hS, cs12 hS, cs13 hS, q1, q2, q3, Nat.not_lt_zero]
  · by_cases q2 : 1 < twoS S s
    · rw [decide_eq_false (by omega)]
      simp (disch := omega) only [b_Hands_handsSuffice_21, b_Hands_handsSuffice_30, b_Hands_handsSuffice_31, b_Hands_handsSuffice_58, b_Hands_handsSuffice_59, ↓reduceIte, nadd, nmul, nsub, nlt, neq, ncl, nvi, ndiv, nrem, nand, nor, nxor, nshl, nshr, exI, exJ, exV, eq_self, true_and, and_true, true_or, or_true, if_true, if_false, not_true, not_false_eq_true, false_and, and_false, decide_true, decide_false, bi_T, bi_F, bi_0, bi_1, bi_z, bft, n10, n01, Nat.reduceEqDiff, Nat.reduceLT, Nat.reduceAdd, Nat.reduceMul, reduceCtorEq, cs7 hS, cs8 hS, cs9 hS, cs10 hS, cs11 hS, cs12 hS, cs13 hS, q1, q2]
    · by_cases q3 : S 10 3 < oneS S s
      · rw [decide_eq_false (by rw [if_neg q1]; omega)]
        simp (disch := omega) only [b_Hands_handsSuffice_21, b_Hands_handsSuffice_30, b_Hands_handsSuffice_31, b_Hands_handsSuffice_38 hg, b_Hands_handsSuffice_58, b_Hands_handsSuffice_59, ↓reduceIte, nadd, nmul, nsub, nlt, neq, ncl, nvi, ndiv, nrem, nand, nor, nxor, nshl, nshr, exI, exJ, exV, eq_self, true_and, and_true, true_or, or_true, if_true, if_false, not_true, not_false_eq_true, false_and, and_false, decide_true, decide_false, bi_T, bi_F, bi_0, bi_1, bi_z, bft, n10, n01, Nat.reduceEqDiff, Nat.reduceLT, Nat.reduceAdd, Nat.reduceMul, reduceCtorEq, cs7 hS, cs8 hS, cs9 hS, cs10 hS, cs11 hS, cs12 hS, cs13 hS, q1, q2, q3, Nat.zero_add]
      · rw [decide_eq_true (by rw [if_neg q1]; omega)]
        simp (disch := omega) only [b_Hands_handsSuffice_21, b_Hands_handsSuffice_30, b_Hands_handsSuffice_31, b_Hands_handsSuffice_38 hg, b_Hands_handsSuffice_54, b_Hands_handsSuffice_59, ↓reduceIte, nadd, nmul, nsub, nlt, neq, ncl, nvi, ndiv, nrem, nand, nor, nxor, nshl, nshr, exI, exJ, exV, eq_self, true_and, and_true, true_or, or_true, if_true, if_false, not_true, not_false_eq_true, false_and, and_false, decide_true, decide_false, bi_T, bi_F, bi_0, bi_1, bi_z, bft, n10, n01, Nat.reduceEqDiff, Nat.reduceLT, Nat.reduceAdd, Nat.reduceMul, reduceCtorEq, cs7 hS, cs8 hS, cs9 hS, cs10 hS, cs11 hS, cs12 hS, cs13 hS, q1, q2, q3, Nat.zero_add]
theorem c_isTogether (hg : Geo g) {b s : Nat} (hs : s < 64) (h40 : ∀ f, f < 6 → I 40 f = nI (bl (far S b f) 6)) : a_call aTab aMX (d + 1) m_Hands_isTogether [.ref 36, .int (nI s)] (g, I, J) Q = Q (some (.int (bi (tgC S b s)))) (g, I, J) := by
  rw [e_Hands_isTogether, b_Hands_isTogether_0]
  unfold tgC
  refine dn (P := fun k => aB (fun f => !s.testBit f || decide (bl (far S b f) 6 &&& s = 0)) k = true → a_wp aTab aMX d m_Hands_isTogether 2 [.ref 36, .int (nI s), .int (nI k)] [] (g, I, J) Q = Q (some (.int (bi (aB (fun f => !s.testBit f || decide (bl (far S b f) 6 &&& s = 0)) 6)))) (g, I, J)) (n := 6) ?_ ?_ 0 (by omega) rfl
  · intro h
    rw [h]
    simp (disch := omega) only [b_Hands_isTogether_2, b_Hands_isTogether_36, ↓reduceIte, nadd, nmul, nsub, nlt, neq, ncl, nvi, ndiv, nrem, nand, nor, nxor, nshl, nshr, exI, exJ, exV, eq_self, true_and, and_true, true_or, or_true, if_true, if_false, not_true, not_false_eq_true, false_and, and_false, decide_true, decide_false, bi_T, bi_F, bi_0, bi_1, bi_z, bft, n10, n01, Nat.reduceEqDiff, Nat.reduceLT, Nat.reduceAdd, Nat.reduceMul, reduceCtorEq, Nat.lt_irrefl]
  · intro k hk ih h
    have e : aB (fun f => !s.testBit f || decide (bl (far S b f) 6 &&& s = 0)) (k + 1) = (aB (fun f => !s.testBit f || decide (bl (far S b f) 6 &&& s = 0)) k && (!s.testBit k || decide (bl (far S b k) 6 &&& s = 0))) := rfl
    rw [e, h, Bool.true_and] at ih
    rw [b_Hands_isTogether_2]
    have l := and64 (a := bl (far S b k) 6) hs
    by_cases q1 : s.testBit k = true
    · by_cases q2 : bl (far S b k) 6 &&& s = 0
      · simp (disch := omega) only [b_Hands_isTogether_8, b_Hands_isTogether_17 hg, b_Hands_isTogether_30, ↓reduceIte, nadd, nmul, nsub, nlt, neq, ncl, nvi, ndiv, nrem, exI, exJ, exV, eq_self, true_and, and_true, true_or, or_true, if_true, if_false, not_true, not_false_eq_true, false_and, and_false, decide_true, decide_false, bi_T, bi_F, bi_0, bi_1, bi_z, bft, n10, n01, Nat.reduceEqDiff, Nat.reduceLT, Nat.reduceAdd, Nat.reduceMul, reduceCtorEq, hk, bt_sh, bt_nI, nand, q1, q2, h40 k hk]
        exact ih (by rw [q1, decide_eq_true q2]; rfl)
      · have : aB (fun f => !s.testBit f || decide (bl (far S b f) 6 &&& s = 0)) 6 = false := by
          apply Bool.eq_false_iff.2
          intro z
          have := aB_iff.1 z k hk
          rw [q1, decide_eq_false q2] at this
          cases this
        rw [this]
        simp (disch := omega) only [b_Hands_isTogether_8, b_Hands_isTogether_17 hg, b_Hands_isTogether_28, ↓reduceIte, nadd, nmul, nsub, nlt, neq, ncl, nvi, ndiv, nrem, exI, exJ, exV, eq_self, true_and, and_true, true_or, or_true, if_true, if_false, not_true, not_false_eq_true, false_and, and_false, decide_true, decide_false, bi_T, bi_F, bi_0, bi_1, bi_z, bft, n10, n01, Nat.reduceEqDiff, Nat.reduceLT, Nat.reduceAdd, Nat.reduceMul, reduceCtorEq, hk, bt_sh, bt_nI, nand, q1, q2, h40 k hk]
    · simp (disch := omega) only [b_Hands_isTogether_8, b_Hands_isTogether_30, ↓reduceIte, nadd, nmul, nsub, nlt, neq, ncl, nvi, ndiv, nrem, exI, exJ, exV, eq_self, true_and, and_true, true_or, or_true, if_true, if_false, not_true, not_false_eq_true, false_and, and_false, decide_true, decide_false, bi_T, bi_F, bi_0, bi_1, bi_z, bft, n10, n01, Nat.reduceEqDiff, Nat.reduceLT, Nat.reduceAdd, Nat.reduceMul, reduceCtorEq, hk, bt_sh, bt_nI, nand, q1]
      exact ih (by rw [Bool.eq_false_iff.2 q1]; rfl)
theorem c_setsFor (hg : Geo g) (hS : CS S I) {h b : Nat} (hh : h < 4) (h7 : I 36 7 = nI (bl (fun f => decide (S 9 f = 2)) 6)) (h40 : ∀ f, f < 6 → I 40 f = nI (bl (far S b f) 6)) : a_call aTab aMX (d + 3) m_Hands_setsFor [.ref 36, .int (nI h), .int (nI (bl (alw S LF h b) 6))] (g, I, J) Q = Q (some (.long (lN (bl (canS S LF h b) 64)))) (g, I, J) := by
  have ht := sb10 hS.2
  have al := bl_lt (alw S LF h b) 6
  have al : bl (alw S LF h b) 6 < 64 := al
  have e64 : bl (canS S LF h b) 64 = bl (canS S LF h b) (bl (alw S LF h b) 6 + 1) := by
    rw [show 64 = (bl (alw S LF h b) 6 + 1) + (64 - (bl (alw S LF h b) 6 + 1)) by omega]
    have : ∀ p : Nat → Bool, (∀ i, bl (alw S LF h b) 6 + 1 ≤ i → i < 64 → p i = false) → ∀ j, bl (alw S LF h b) 6 + 1 + j ≤ 64 → bl p (bl (alw S LF h b) 6 + 1 + j) = bl p (bl (alw S LF h b) 6 + 1) := by
      intro p hp j
      induction j with
      | zero => intro _; rfl
      | succ j ih =>
        intro hj
        rw [← Nat.add_assoc]
        show (if p (bl (alw S LF h b) 6 + 1 + j) then _ else _) = _
        rw [hp _ (by omega) (by omega), if_neg (by decide), ih (by omega)]
    refine this _ ?_ _ (by omega)
    intro i h1 h2
    apply Bool.eq_false_iff.2
    intro z
    unfold canS at z
    rw [Bool.and_eq_true] at z
    have := sub_le ((alw_sub h2).2 z.1)
    omega
  rw [e64, e_Hands_setsFor, b_Hands_setsFor_0]
  refine dn (P := fun k => ∀ v6, a_wp aTab aMX (d + 2) m_Hands_setsFor 5 [.ref 36, .int (nI h), .int (nI (bl (alw S LF h b) 6)), .long (lN (bl (canS S LF h b) k)), aU, .int (nI k), v6] [] (g, I, J) Q = Q (some (.long (lN (bl (canS S LF h b) (bl (alw S LF h b) 6 + 1))))) (g, I, J)) (n := bl (alw S LF h b) 6 + 1) ?_ ?_ 0 (by omega) _
  · intro v6
    have q : bl (alw S LF h b) 6 < bl (alw S LF h b) 6 + 1 := by omega
    simp (disch := omega) only [b_Hands_setsFor_5, b_Hands_setsFor_96, ↓reduceIte, nadd, nmul, nsub, nlt, neq, ncl, nvi, ndiv, nrem, nand, nor, nxor, nshl, nshr, exI, exJ, exV, eq_self, true_and, and_true, true_or, or_true, if_true, if_false, not_true, not_false_eq_true, false_and, and_false, decide_true, decide_false, bi_T, bi_F, bi_0, bi_1, bi_z, bft, n10, n01, Nat.reduceEqDiff, Nat.reduceLT, Nat.reduceAdd, Nat.reduceMul, reduceCtorEq, q]
  · intro k hk ih v6
    have q : ¬ bl (alw S LF h b) 6 < k := by omega
    have eb : bl (canS S LF h b) (k + 1) = if canS S LF h b k then bl (canS S LF h b) k ||| 1 <<< k else bl (canS S LF h b) k := rfl
    rw [eb] at ih
    rw [b_Hands_setsFor_5]
    simp (disch := omega) only [b_Hands_setsFor_11, ↓reduceIte, nadd, nmul, nsub, nlt, neq, ncl, nvi, ndiv, nrem, nand, nor, nxor, nshl, nshr, exI, exJ, exV, eq_self, true_and, and_true, true_or, or_true, if_true, if_false, not_true, not_false_eq_true, false_and, and_false, decide_true, decide_false, bi_T, bi_F, bi_0, bi_1, bi_z, bft, n10, n01, Nat.reduceEqDiff, Nat.reduceLT, Nat.reduceAdd, Nat.reduceMul, reduceCtorEq, q, nsubm]
    by_cases q1 : k &&& bl (alw S LF h b) 6 = k
    rotate_left
    · have : canS S LF h b k = false := by
        unfold canS
        rw [Bool.eq_false_iff.2 (fun z => q1 ((alw_sub (by omega)).2 z)), Bool.false_and]
      rw [this, if_neg (by decide)] at ih
      simp (disch := omega) only [b_Hands_setsFor_20, b_Hands_setsFor_90, ↓reduceIte, nadd, nmul, nsub, nlt, neq, ncl, nvi, ndiv, nrem, nand, nor, nxor, nshl, nshr, exI, exJ, exV, eq_self, true_and, and_true, true_or, or_true, if_true, if_false, not_true, not_false_eq_true, false_and, and_false, decide_true, decide_false, bi_T, bi_F, bi_0, bi_1, bi_z, bft, n10, n01, Nat.reduceEqDiff, Nat.reduceLT, Nat.reduceAdd, Nat.reduceMul, reduceCtorEq, q1]
      exact ih _
    have ha := (alw_sub (by omega)).1 q1
    have ec : canS S LF h b k = (if h = 3 then decide (fb_ct k.testBit 6 ≤ S 10 4) else (hsf S k && tgC S b k)) := by
      unfold canS
      rw [ha, Bool.true_and, tgC_eq (by omega) ha]
    rw [ec] at ih
    simp only [q1, if_true]
    rw [b_Hands_setsFor_23]
    have l6 : fb_ct k.testBit 6 ≤ 6 := fb_ct_le _ 6
    by_cases q3 : h = 3
    · rw [if_pos q3] at ih
      by_cases q4 : S 10 4 < fb_ct k.testBit 6
      · rw [decide_eq_false (by omega), if_neg (by decide)] at ih
        simp (disch := omega) only [b_Hands_setsFor_28, b_Hands_setsFor_33 hg, b_Hands_setsFor_49, b_Hands_setsFor_76, b_Hands_setsFor_90, ↓reduceIte, nadd, nmul, nsub, nlt, neq, ncl, nvi, ndiv, nrem, nand, nor, nxor, nshl, nshr, exI, exJ, exV, eq_self, true_and, and_true, true_or, or_true, if_true, if_false, not_true, not_false_eq_true, false_and, and_false, decide_true, decide_false, bi_T, bi_F, bi_0, bi_1, bi_z, bft, n10, n01, Nat.reduceEqDiff, Nat.reduceLT, Nat.reduceAdd, Nat.reduceMul, reduceCtorEq, cs7 hS, cs8 hS, cs9 hS, cs10 hS, cs11 hS, cs12 hS, cs13 hS, c_bitI, pc6, q3, q4]
        rw [q3] at ih
        exact ih _
      · rw [decide_eq_true (by omega), if_pos rfl] at ih
        simp (disch := omega) only [b_Hands_setsFor_28, b_Hands_setsFor_33 hg, b_Hands_setsFor_45, b_Hands_setsFor_76, b_Hands_setsFor_83, b_Hands_setsFor_90, ↓reduceIte, nadd, nmul, nsub, nlt, neq, ncl, nvi, ndiv, nrem, nand, nor, nxor, nshl, nshr, exI, exJ, exV, eq_self, true_and, and_true, true_or, or_true, if_true, if_false, not_true, not_false_eq_true, false_and, and_false, decide_true, decide_false, bi_T, bi_F, bi_0, bi_1, bi_z, bft, n10, n01, Nat.reduceEqDiff, Nat.reduceLT, Nat.reduceAdd, Nat.reduceMul, reduceCtorEq, cs7 hS, cs8 hS, cs9 hS, cs10 hS, cs11 hS, cs12 hS, cs13 hS, c_bitI, pc6, q3, q4, lshl1, fb_orL]
        rw [q3] at ih
        exact ih _
    · rw [if_neg q3] at ih
      cases p1 : hsf S k
      · rw [p1, Bool.false_and, if_neg (by decide)] at ih
        simp (disch := omega) only [b_Hands_setsFor_53 hg, b_Hands_setsFor_59, b_Hands_setsFor_75, b_Hands_setsFor_76, b_Hands_setsFor_90, ↓reduceIte, nadd, nmul, nsub, nlt, neq, ncl, nvi, ndiv, nrem, nand, nor, nxor, nshl, nshr, exI, exJ, exV, eq_self, true_and, and_true, true_or, or_true, if_true, if_false, not_true, not_false_eq_true, false_and, and_false, decide_true, decide_false, bi_T, bi_F, bi_0, bi_1, bi_z, bft, n10, n01, Nat.reduceEqDiff, Nat.reduceLT, Nat.reduceAdd, Nat.reduceMul, reduceCtorEq, c_handsSuffice hg hS (show k < 64 by omega) h7, p1, q3]
        exact ih _
      · cases p2 : tgC S b k
        · rw [p1, p2, Bool.and_false, if_neg (by decide)] at ih
          simp (disch := omega) only [b_Hands_setsFor_53 hg, b_Hands_setsFor_59, b_Hands_setsFor_62 hg, b_Hands_setsFor_68, b_Hands_setsFor_75, b_Hands_setsFor_76, b_Hands_setsFor_90, ↓reduceIte, nadd, nmul, nsub, nlt, neq, ncl, nvi, ndiv, nrem, nand, nor, nxor, nshl, nshr, exI, exJ, exV, eq_self, true_and, and_true, true_or, or_true, if_true, if_false, not_true, not_false_eq_true, false_and, and_false, decide_true, decide_false, bi_T, bi_F, bi_0, bi_1, bi_z, bft, n10, n01, Nat.reduceEqDiff, Nat.reduceLT, Nat.reduceAdd, Nat.reduceMul, reduceCtorEq, c_handsSuffice hg hS (show k < 64 by omega) h7, c_isTogether hg (show k < 64 by omega) h40, p1, p2, q3]
          exact ih _
        · rw [p1, p2, Bool.and_true, if_pos rfl] at ih
          simp (disch := omega) only [b_Hands_setsFor_53 hg, b_Hands_setsFor_59, b_Hands_setsFor_62 hg, b_Hands_setsFor_68, b_Hands_setsFor_71, b_Hands_setsFor_76, b_Hands_setsFor_83, b_Hands_setsFor_90, ↓reduceIte, nadd, nmul, nsub, nlt, neq, ncl, nvi, ndiv, nrem, nand, nor, nxor, nshl, nshr, exI, exJ, exV, eq_self, true_and, and_true, true_or, or_true, if_true, if_false, not_true, not_false_eq_true, false_and, and_false, decide_true, decide_false, bi_T, bi_F, bi_0, bi_1, bi_z, bft, n10, n01, Nat.reduceEqDiff, Nat.reduceLT, Nat.reduceAdd, Nat.reduceMul, reduceCtorEq, c_handsSuffice hg hS (show k < 64 by omega) h7, c_isTogether hg (show k < 64 by omega) h40, p1, p2, q3, lshl1, fb_orL]
          exact ih _
end HA
