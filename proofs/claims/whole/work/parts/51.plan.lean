/-! ===== the Planner: its small methods, its costs ===== -/
def PG (g : aG) (B : Nat) : Prop := 123 ≤ B ∧ gR g 44 6 = B ∧ gR g 44 7 = B + 13 ∧ gK g B = 17 ∧ gN g B = 12 ∧ (∀ i, i < 12 → gR g B i = B + 1 + i ∧ gK g (B + 1 + i) = 12 ∧ gN g (B + 1 + i) = 4096) ∧ gK g (B + 13) = 18 ∧ gN g (B + 13) = 2 ∧ (∀ i, i < 2 → gR g (B + 13) i = B + 14 + i ∧ gK g (B + 14 + i) = 13 ∧ gN g (B + 14 + i) = 4096)
/-- a cost and its count in one long; or none -/
def ER (n : Nat) (x : Int64) (p : Nat × Nat) : Prop := (p.1 < 1000000 ∧ x = lN (p.1 * 4294967296 + p.2)) ∨ (p.1 = 1000000 ∧ ∃ e, e ≤ n ∧ x = lN ((1048576 + e) * 4294967296 + 0))
def stp (p : Nat × Nat) (v w : Nat) : Nat × Nat := if v < 1000000 ∧ v ≤ p.1 then (v, (if v < p.1 then 0 else p.2) + w) else p
theorem sh32 {n : Nat} (h : n < 4611686018427387904) : lN n >>> ((nI 32).toInt64 &&& 63) = lN (n / 4294967296) := pf_shr (d := 32) (by decide) h
theorem sl32 (n : Nat) : lN n <<< ((nI 32).toInt64 &&& 63) = lN (n * 4294967296) := wb_shl n (by decide)
theorem an32 {n : Nat} (h : n < 18446744073709551616) : lN n &&& lN 4294967295 = lN (n % 4294967296) := wb_mask (k := 32) h (by decide)
theorem or32 {a b : Nat} (ha : a < 4294967296) (hb : b < 4294967296) : lN (b * 4294967296) ||| lN a = lN (b * 4294967296 + a) := g_or (k := 32) (by decide) ha (by
  have : b * 4294967296 ≤ 4294967295 * 4294967296 := Nat.mul_le_mul_right _ (by omega)
  omega)
theorem fin32 {a u : Nat} (hu : u < 4294967296) : (a * 4294967296 + u) / 4294967296 = a ∧ (a * 4294967296 + u) % 4294967296 = u := by omega
section PL
variable {d : Nat} {g : aG} {I : Nat → Nat → Int32} {J : Nat → Nat → Int64} {Q : aQ} {S : Nat → Nat → Nat} {LF : aLF}
theorem c_either {a u b v : Nat} (ha : a < 4194304) (hb : b < 4194304) (hu : u ≤ 1000000000) (hv : v ≤ 1000000000) : a_call aTab aMX (d + 1) m_Planner_either [.long (lN (a * 4294967296 + u)), .long (lN (b * 4294967296 + v))] (g, I, J) Q = Q (some (.long (if a = b then lN (a * 4294967296 + min 1000000000 (u + v)) else if b < a then lN (b * 4294967296 + v) else lN (a * 4294967296 + u)))) (g, I, J) := by
  have f1 := fin32 (a := a) (u := u) (by omega)
  have f2 := fin32 (a := b) (u := v) (by omega)
  rw [e_Planner_either, b_Planner_either_0, sh32 (by omega), sh32 (by omega), f1.1, f2.1]
  by_cases q : a = b
  · rw [if_pos (by rw [q]), if_pos q, b_Planner_either_18, sh32 (by omega), f1.1, sl32, an32 (by omega), an32 (by omega), f1.2, f2.2, lN_add]
    by_cases q2 : u + v < 1000000000
    · rw [if_pos ((pk_lLT (by omega) (by omega)).2 q2), or32 (by omega) (by omega), show min 1000000000 (u + v) = u + v by omega]
    · rw [if_neg (fun z => q2 ((pk_lLT (by omega) (by omega)).1 z)), or32 (by omega) (by omega), show min 1000000000 (u + v) = 1000000000 by omega]
  · rw [if_neg (fun z => q ((pk_lEQ (by omega) (by omega)).1 z)), if_neg q, b_Planner_either_12]
    by_cases q2 : b < a
    · rw [if_pos ((pk_lLT (by omega) (by omega)).2 (by omega)), if_pos q2]
    · rw [if_neg (fun z => q2 (by have := (pk_lLT (by omega) (by omega)).1 z; omega)), if_neg q2]
/-- either of two that stand for costs -/
theorem c_eitherR {n : Nat} {x y : Int64} {p : Nat × Nat} {v w : Nat} (hn : n ≤ 100000) (hx : ER n x (p.1, min 1000000000 p.2)) (hy : ER n y (v, w)) (hw : w ≤ 1000000000) (hQ : ∀ z, ER n z ((stp p v w).1, min 1000000000 (stp p v w).2) → Q (some (.long z)) (g, I, J)) : a_call aTab aMX (d + 1) m_Planner_either [.long x, .long y] (g, I, J) Q := by
  unfold stp at hQ
  rcases hx with ⟨h1, rfl⟩ | ⟨h1, e1, he1, rfl⟩
  · have h1 : p.1 < 1000000 := h1
    rcases hy with ⟨h2, rfl⟩ | ⟨h2, e2, he2, rfl⟩
    · have h2 : v < 1000000 := h2
      rw [c_either (by show p.1 < _; omega) (by show v < _; omega) (by omega) hw]
      apply hQ
      by_cases q : p.1 = v
      · rw [if_pos q, if_pos (by omega), if_neg (by omega)]
        left
        refine ⟨h2, ?_⟩
        show lN (p.1 * 4294967296 + _) = lN (v * 4294967296 + _)
        rw [q]
        congr 2
        show min 1000000000 (min 1000000000 p.2 + w) = min 1000000000 (p.2 + w)
        omega
      · rw [if_neg q]
        by_cases q2 : v < p.1
        · rw [if_pos q2, if_pos (by omega), if_pos q2]
          left
          refine ⟨h2, ?_⟩
          show lN (v * 4294967296 + w) = lN (v * 4294967296 + min 1000000000 (0 + w))
          congr 2
          omega
        · rw [if_neg q2, if_neg (by omega)]
          exact Or.inl ⟨h1, rfl⟩
    · have h2 : v = 1000000 := h2
      rw [c_either (by show p.1 < _; omega) (by omega) (by omega) (by omega)]
      apply hQ
      rw [if_neg (by show ¬ p.1 = _; omega), if_neg (by show ¬ _ < p.1; omega), if_neg (by omega)]
      exact Or.inl ⟨h1, rfl⟩
  · have h1 : p.1 = 1000000 := h1
    rcases hy with ⟨h2, rfl⟩ | ⟨h2, e2, he2, rfl⟩
    · have h2 : v < 1000000 := h2
      rw [c_either (by omega) (by show v < _; omega) (by omega) hw]
      apply hQ
      rw [if_neg (by show ¬ _ = v; omega), if_pos (by show v < _; omega), if_pos (by omega), if_pos (by omega)]
      left
      refine ⟨h2, ?_⟩
      show lN (v * 4294967296 + w) = lN (v * 4294967296 + min 1000000000 (0 + w))
      congr 2
      omega
    · have h2 : v = 1000000 := h2
      rw [c_either (by omega) (by omega) (by omega) (by omega)]
      apply hQ
      rw [if_neg (by omega : ¬ (v < 1000000 ∧ v ≤ p.1))]
      right
      refine ⟨h1, ?_⟩
      by_cases q : 1048576 + e1 = 1048576 + e2
      · rw [if_pos q]
        exact ⟨e1, he1, rfl⟩
      · rw [if_neg q]
        by_cases q2 : 1048576 + e2 < 1048576 + e1
        · rw [if_pos q2]
          exact ⟨e2, he2, rfl⟩
        · rw [if_neg q2]
          exact ⟨e1, he1, rfl⟩
theorem c_holderOf (hg : Geo g) (hS : CS S I) {x : Nat} (hx : x < 1000) : a_call aTab aMX (d + 1) m_Planner_holderOf [.ref 44, .int (nI x)] (g, I, J) Q = Q (some (.int (nI (hO (S 10 2) x)))) (g, I, J) := by
  have ht := sb10 hS.2
  unfold hO
  rw [e_Planner_holderOf]
  by_cases q : x < S 10 2 <;> simp (disch := omega) only [b_Planner_holderOf_0 hg, b_Planner_holderOf_13, b_Planner_holderOf_17, b_Planner_holderOf_18, ↓reduceIte, nadd, nmul, nsub, nlt, neq, ncl, nvi, ndiv, nrem, exI, exJ, exV, eq_self, true_and, and_true, true_or, or_true, if_true, if_false, not_true, not_false_eq_true, false_and, and_false, decide_true, decide_false, bi_T, bi_F, bi_0, bi_1, bi_z, bft, n10, n01, Nat.reduceEqDiff, Nat.reduceLT, Nat.reduceAdd, Nat.reduceMul, reduceCtorEq, cs7 hS, cs8 hS, cs9 hS, cs10 hS, cs11 hS, cs12 hS, cs13 hS, q]
theorem c_sizeOf (hg : Geo g) {x : Int32} {bs : Nat} (h14 : I 44 14 = nI bs) (hb : bs ≤ 4) (hx : pcI x ≤ 6) : a_call aTab aMX (d + 2) m_Planner_sizeOf [.ref 44, .int x] (g, I, J) Q = Q (some (.int (nI (bs ^ pcI x)))) (g, I, J) := by
  have le4 : bs ^ pcI x ≤ 4096 := by
    have h1 : bs ^ pcI x ≤ 4 ^ pcI x := Nat.pow_le_pow_left hb _
    have h2 : 4 ^ pcI x ≤ 4 ^ 6 := Nat.pow_le_pow_right (by decide) hx
    omega
  rw [e_Planner_sizeOf]
  simp (disch := omega) only [b_Planner_sizeOf_0, b_Planner_sizeOf_6, c_bitI, exI, exJ, exV, eq_self, true_and, and_true, true_or, or_true, if_true, if_false, not_true, not_false_eq_true, false_and, and_false, decide_true, decide_false, bi_T, bi_F, bi_0, bi_1, bi_z, bft, n10, n01, Nat.reduceEqDiff, Nat.reduceLT, Nat.reduceAdd, Nat.reduceMul, reduceCtorEq]
  have em : ∀ c : Nat, 1 ≤ c → nI c + (-1 : Int32) = nI (c - 1) := fun c hc => nm1 hc
  generalize pcI x = n at *
  refine dn (P := fun k => ∀ v1, a_wp aTab aMX (d + 1) m_Planner_sizeOf 7 [.ref 44, v1, .int (nI (bs ^ k)), .int (nI (n - k))] [] (g, I, J) Q = Q (some (.int (nI (bs ^ n)))) (g, I, J)) (n := n) ?_ ?_ 0 (by omega) _
  · intro v1
    rw [Nat.sub_self]
    have q : ¬ 4096 < bs ^ n := by omega
    simp (disch := omega) only [b_Planner_sizeOf_7, b_Planner_sizeOf_24, ↓reduceIte, nadd, nmul, nsub, nlt, neq, ncl, nvi, ndiv, nrem, exI, exJ, exV, eq_self, true_and, and_true, true_or, or_true, if_true, if_false, not_true, not_false_eq_true, false_and, and_false, decide_true, decide_false, bi_T, bi_F, bi_0, bi_1, bi_z, bft, n10, n01, Nat.reduceEqDiff, Nat.reduceLT, Nat.reduceAdd, Nat.reduceMul, reduceCtorEq, Nat.lt_irrefl, q]
  · intro k hk ih v1
    have q : 0 < n - k := by omega
    rw [b_Planner_sizeOf_7]
    simp (disch := omega) only [b_Planner_sizeOf_11 hg, ↓reduceIte, nadd, nmul, nsub, nlt, neq, ncl, nvi, ndiv, nrem, exI, exJ, exV, eq_self, true_and, and_true, true_or, or_true, if_true, if_false, not_true, not_false_eq_true, false_and, and_false, decide_true, decide_false, bi_T, bi_F, bi_0, bi_1, bi_z, bft, n10, n01, Nat.reduceEqDiff, Nat.reduceLT, Nat.reduceAdd, Nat.reduceMul, reduceCtorEq, q, h14, em]
    rw [Nat.pow_succ, show n - (k + 1) = n - k - 1 by omega] at ih
    exact ih _
theorem c_costAt {f b x y : Nat} : a_call aTab aMX (d + 1) m_Planner_costAt [.int (nI f), .int (nI b), .int (nI x), .int (nI y)] (g, I, J) Q = Q (some (.int (nI ((f * 12 + b) * 16 + x * 4 + y)))) (g, I, J) := by
  rw [e_Planner_costAt, b_Planner_costAt_0]
  simp only [nadd, nmul]
def tg (S : Nat → Nat → Nat) (LF : aLF) (f b q : Nat) : Nat := if 1 ≤ b ∧ q / 4 < bas (S 10 2) (S 10 4) ∧ q % 4 < bas (S 10 2) (S 10 4) then psv S LF f (b - 1) (hO (S 10 2) (q / 4)) (hO (S 10 2) (q % 4)) else 0
def CD (S : Nat → Nat → Nat) (LF : aLF) (k k2 p : Nat) (I : Nat → Nat → Int32) : Prop := ∀ f b q, f < 6 → b < 12 → q < 16 → I 45 ((f * 12 + b) * 16 + q) = nI (if b < k ∨ (b = k ∧ (f < k2 ∨ (f = k2 ∧ q < p))) then tg S LF f b q else 0)
theorem CD_c {k k2 p j j2 r : Nat} {I I2 : Nat → Nat → Int32} (h : CD S LF k k2 p I) (e : I2 45 = I 45) (hh : ∀ f b q, f < 6 → b < 12 → q < 16 → ((b < k ∨ (b = k ∧ (f < k2 ∨ (f = k2 ∧ q < p)))) ↔ (b < j ∨ (b = j ∧ (f < j2 ∨ (f = j2 ∧ q < r))))) ∨ tg S LF f b q = 0) : CD S LF j j2 r I2 := by
  intro f b q hf hb hq
  rw [e, h f b q hf hb hq]
  rcases hh f b q hf hb hq with z | z
  · by_cases y : b < k ∨ (b = k ∧ (f < k2 ∨ (f = k2 ∧ q < p)))
    · rw [if_pos y, if_pos (z.1 y)]
    · rw [if_neg y, if_neg (fun w => y (z.2 w))]
  · rw [z, ite_self, ite_self]
theorem c_fillCosts (hg : Geo g) (hS : CS S I) {W : Nat → Int32} (hL : LJ LF I W) (h14 : I 44 14 = nI (bas (S 10 2) (S 10 4))) (h46 : ∀ b, b < 12 → I 46 b = nI (sOns S b)) (hQ : ∀ I' J', Fr [34, 45] I I' → Fr [35] J J' → CD S LF 12 0 0 I' → Q none (g, I', J')) : a_call aTab aMX (d + 4) m_Planner_fillCosts [.ref 44] (g, I, J) Q := by
  have ht := sb10 hS.2
  have hbs : bas (S 10 2) (S 10 4) ≤ 4 := by unfold bas; split <;> omega
  rw [e_Planner_fillCosts, b_Planner_fillCosts_0 hg, c_fillI (k_45 hg) (n_45 hg) (by decide)]
  simp only [exV, true_and]
  rw [b_Planner_fillCosts_8]
  have key : ∀ k, k ≤ 12 → 1 ≤ k → ∀ I2 J2, Fr [34, 45] I I2 → Fr [35] J J2 → CD S LF k 0 0 I2 → ∀ v2 v3 v4 v5 v6, a_wp aTab aMX (d + 3) m_Planner_fillCosts 10 [.ref 44, .int (nI k), v2, v3, v4, v5, v6] [] (g, I2, J2) Q := by
    refine dn ?_ ?_
    · intro _ I2 J2 g1 g2 g3 v2 v3 v4 v5 v6
      simp (disch := omega) only [b_Planner_fillCosts_10, b_Planner_fillCosts_160, ↓reduceIte, nadd, nmul, nsub, nlt, neq, ncl, nvi, ndiv, nrem, exI, exJ, exV, eq_self, true_and, and_true, true_or, or_true, if_true, if_false, not_true, not_false_eq_true, false_and, and_false, decide_true, decide_false, bi_T, bi_F, bi_0, bi_1, bi_z, bft, n10, n01, Nat.reduceEqDiff, Nat.reduceLT, Nat.reduceAdd, Nat.reduceMul, reduceCtorEq, Nat.lt_irrefl]
      exact hQ I2 J2 g1 g2 g3
    · intro k hk ih hk1 I2 J2 g1 g2 g3 v2 v3 v4 v5 v6
      have a46 : I2 46 = I 46 := Fr_at g1 46 (by decide)
      have e1 : I2 46 k = nI (sOns S k) := by rw [a46]; exact h46 k hk
      have e2 : I2 46 (k - 1) = nI (sOns S (k - 1)) := by rw [a46]; exact h46 (k - 1) (by omega)
      simp (disch := omega) only [b_Planner_fillCosts_10, b_Planner_fillCosts_16 hg, ↓reduceIte, nadd, nmul, nsub, nlt, neq, ncl, nvi, ndiv, nrem, exI, exJ, exV, eq_self, true_and, and_true, true_or, or_true, if_true, if_false, not_true, not_false_eq_true, false_and, and_false, decide_true, decide_false, bi_T, bi_F, bi_0, bi_1, bi_z, bft, n10, n01, Nat.reduceEqDiff, Nat.reduceLT, Nat.reduceAdd, Nat.reduceMul, reduceCtorEq, hk, e1, e2, nand]
      have ol := ons_lt hS.2 (k - 1)
      have hbit : ∀ f, f < 6 → (sOns S k &&& sOns S (k - 1)).testBit f = (sOn2 S f (k - 1) && sOn2 S f (k - 1 + 1)) := by
        intro f hf
        rw [Nat.testBit_and, ons_bit hS.2 hf, ons_bit hS.2 hf, sOn2_lt (by omega), sOn2_lt (by omega), show k - 1 + 1 = k by omega, Bool.and_comm]
      have l64 := and64 (a := sOns S k) ol
      generalize sOns S k &&& sOns S (k - 1) = both at *
      have mid : ∀ k2, k2 ≤ 6 → ∀ I2 J2, Fr [34, 45] I I2 → Fr [35] J J2 → CD S LF k k2 0 I2 → ∀ v4 v5 v6, a_wp aTab aMX (d + 3) m_Planner_fillCosts 34 [.ref 44, .int (nI k), .int (nI both), .int (nI k2), v4, v5, v6] [] (g, I2, J2) Q := by
        refine dn ?_ ?_
        · intro I2 J2 g1 g2 g3 v4 v5 v6
          simp (disch := omega) only [b_Planner_fillCosts_34, b_Planner_fillCosts_154, ↓reduceIte, nadd, nmul, nsub, nlt, neq, ncl, nvi, ndiv, nrem, exI, exJ, exV, eq_self, true_and, and_true, true_or, or_true, if_true, if_false, not_true, not_false_eq_true, false_and, and_false, decide_true, decide_false, bi_T, bi_F, bi_0, bi_1, bi_z, bft, n10, n01, Nat.reduceEqDiff, Nat.reduceLT, Nat.reduceAdd, Nat.reduceMul, reduceCtorEq, Nat.lt_irrefl]
          refine ih (by omega) I2 J2 g1 g2 (CD_c g3 rfl (fun f b q hf hb hq => Or.inl ?_)) _ _ _ _ _
          constructor <;> intro z <;> omega
        · intro k2 hk2 ih2 I2 J2 g1 g2 g3 v4 v5 v6
          simp (disch := omega) only [b_Planner_fillCosts_34, b_Planner_fillCosts_40, ↓reduceIte, nadd, nmul, nsub, nlt, neq, ncl, nvi, ndiv, nrem, exI, exJ, exV, eq_self, true_and, and_true, true_or, or_true, if_true, if_false, not_true, not_false_eq_true, false_and, and_false, decide_true, decide_false, bi_T, bi_F, bi_0, bi_1, bi_z, bft, n10, n01, Nat.reduceEqDiff, Nat.reduceLT, Nat.reduceAdd, Nat.reduceMul, reduceCtorEq, hk2]
          by_cases qb : both.testBit k2 = true
          rotate_left
          · rw [b_Planner_fillCosts_43]
            simp (disch := omega) only [b_Planner_fillCosts_50, b_Planner_fillCosts_148, ↓reduceIte, nadd, nmul, nsub, nlt, neq, ncl, nvi, ndiv, nrem, exI, exJ, exV, eq_self, true_and, and_true, true_or, or_true, if_true, if_false, not_true, not_false_eq_true, false_and, and_false, decide_true, decide_false, bi_T, bi_F, bi_0, bi_1, bi_z, bft, n10, n01, Nat.reduceEqDiff, Nat.reduceLT, Nat.reduceAdd, Nat.reduceMul, reduceCtorEq, bt_sh, bt_nI, qb]
            refine ih2 I2 J2 g1 g2 (CD_c g3 rfl (fun f b q hf hb hq => ?_)) _ _ _
            by_cases z : f = k2 ∧ b = k
            · right
              unfold tg psv
              rw [z.1, z.2, ← hbit k2 hk2, if_neg (show ¬ (both.testBit k2 = true ∧ _) from fun y => qb y.1), ite_self]
            · left
              constructor <;> intro y <;> omega
          have hon := hbit k2 hk2
          rw [qb] at hon
          have hon := hon.symm
          rw [Bool.and_eq_true] at hon
          have hon2 : sOn S k2 k = true := by have := hon.2; rw [sOn2_lt (by omega), show k - 1 + 1 = k by omega] at this; exact this
          have inner : ∀ p, p ≤ 16 → ∀ I2 J2, Fr [34, 45] I I2 → Fr [35] J J2 → CD S LF k k2 p I2 → ∀ v5 v6, a_wp aTab aMX (d + 3) m_Planner_fillCosts 43 [.ref 44, .int (nI k), .int (nI both), .int (nI k2), .int (nI p), v5, v6] [] (g, I2, J2) Q := by
            refine dn ?_ ?_
            · intro I2 J2 g1 g2 g3 v5 v6
              simp (disch := omega) only [b_Planner_fillCosts_43, b_Planner_fillCosts_148, ↓reduceIte, nadd, nmul, nsub, nlt, neq, ncl, nvi, ndiv, nrem, exI, exJ, exV, eq_self, true_and, and_true, true_or, or_true, if_true, if_false, not_true, not_false_eq_true, false_and, and_false, decide_true, decide_false, bi_T, bi_F, bi_0, bi_1, bi_z, bft, n10, n01, Nat.reduceEqDiff, Nat.reduceLT, Nat.reduceAdd, Nat.reduceMul, reduceCtorEq, Nat.lt_irrefl]
              refine ih2 I2 J2 g1 g2 (CD_c g3 rfl (fun f b q hf hb hq => Or.inl ?_)) _ _ _
              constructor <;> intro y <;> omega
            · intro p hp ihp I2 J2 g1 g2 g3 v5 v6
              have hp4 : p - p / 4 * 4 = p % 4 := by omega
              have a14 : I2 44 14 = nI (bas (S 10 2) (S 10 4)) := by rw [Fr_at g1 44 (by decide)]; exact h14
              have skip : tg S LF k2 k p = 0 → ∀ v5 v6, a_wp aTab aMX (d + 3) m_Planner_fillCosts 142 [.ref 44, .int (nI k), .int (nI both), .int (nI k2), .int (nI p), v5, v6] [] (g, I2, J2) Q := by
                intro hz v5 v6
                rw [b_Planner_fillCosts_142, nadd]
                refine ihp I2 J2 g1 g2 (CD_c g3 rfl (fun f b q hf hb hq => ?_)) _ _
                by_cases z : f = k2 ∧ b = k ∧ q = p
                · right; rw [z.1, z.2.1, z.2.2]; exact hz
                · left; constructor <;> intro y <;> omega
              rw [b_Planner_fillCosts_43]
              by_cases q1 : p / 4 = p % 4
              · have q1' : (p / 4 = p % 4) = True := eq_true q1
                simp (disch := omega) only [b_Planner_fillCosts_50, b_Planner_fillCosts_59, ↓reduceIte, nadd, nmul, nsub, nlt, neq, ncl, nvi, ndiv, nrem, exI, exJ, exV, eq_self, true_and, and_true, true_or, or_true, if_true, if_false, not_true, not_false_eq_true, false_and, and_false, decide_true, decide_false, bi_T, bi_F, bi_0, bi_1, bi_z, bft, n10, n01, Nat.reduceEqDiff, Nat.reduceLT, Nat.reduceAdd, Nat.reduceMul, reduceCtorEq, hp, bt_sh, bt_nI, qb, hp4, q1']
                refine skip ?_ _ _
                unfold tg psv
                rw [q1, if_neg (show ¬ (_ ∧ hO (S 10 2) (p % 4) ≠ hO (S 10 2) (p % 4)) from fun y => y.2 rfl), ite_self]
              by_cases q2 : p / 4 < bas (S 10 2) (S 10 4)
              rotate_left
              · simp (disch := omega) only [b_Planner_fillCosts_50, b_Planner_fillCosts_59, b_Planner_fillCosts_78 hg, ↓reduceIte, nadd, nmul, nsub, nlt, neq, ncl, nvi, ndiv, nrem, exI, exJ, exV, eq_self, true_and, and_true, true_or, or_true, if_true, if_false, not_true, not_false_eq_true, false_and, and_false, decide_true, decide_false, bi_T, bi_F, bi_0, bi_1, bi_z, bft, n10, n01, Nat.reduceEqDiff, Nat.reduceLT, Nat.reduceAdd, Nat.reduceMul, reduceCtorEq, hp, bt_sh, bt_nI, qb, hp4, q1, q2, a14]
                exact skip (by unfold tg; rw [if_neg (fun y => q2 y.2.1)]) _ _
              by_cases q3 : p % 4 < bas (S 10 2) (S 10 4)
              rotate_left
              · simp (disch := omega) only [b_Planner_fillCosts_50, b_Planner_fillCosts_59, b_Planner_fillCosts_78 hg, b_Planner_fillCosts_87 hg, ↓reduceIte, nadd, nmul, nsub, nlt, neq, ncl, nvi, ndiv, nrem, exI, exJ, exV, eq_self, true_and, and_true, true_or, or_true, if_true, if_false, not_true, not_false_eq_true, false_and, and_false, decide_true, decide_false, bi_T, bi_F, bi_0, bi_1, bi_z, bft, n10, n01, Nat.reduceEqDiff, Nat.reduceLT, Nat.reduceAdd, Nat.reduceMul, reduceCtorEq, hp, bt_sh, bt_nI, qb, hp4, q1, q2, q3, a14]
                exact skip (by unfold tg; rw [if_neg (fun y => q3 y.2.2)]) _ _
              have hS2 := CS_Fr (by decide) g1 hS
              have o1 := hO_lt (hp := S 10 2) (x := p / 4) (by omega)
              have o2 := hO_lt (hp := S 10 2) (x := p % 4) (by omega)
              simp (disch := omega) only [b_Planner_fillCosts_50, b_Planner_fillCosts_59, b_Planner_fillCosts_78 hg, b_Planner_fillCosts_87 hg, b_Planner_fillCosts_96 hg, b_Planner_fillCosts_108 hg, b_Planner_fillCosts_114 hg, ↓reduceIte, nadd, nmul, nsub, nlt, neq, ncl, nvi, ndiv, nrem, exI, exJ, exV, eq_self, true_and, and_true, true_or, or_true, if_true, if_false, not_true, not_false_eq_true, false_and, and_false, decide_true, decide_false, bi_T, bi_F, bi_0, bi_1, bi_z, bft, n10, n01, Nat.reduceEqDiff, Nat.reduceLT, Nat.reduceAdd, Nat.reduceMul, reduceCtorEq, hp, bt_sh, bt_nI, qb, hp4, q1, q2, q3, a14, c_holderOf hg hS2]
              rw [show nI (hO (S 10 2) (p % 4)) = iI ((hO (S 10 2) (p % 4) : Nat) : Int) from (iI_n _).symm]
              refine c_turnTo hg hS2 hon2 (by omega) ?_
              intro I3 r1 r2
              refine ⟨rfl, ?_⟩
              simp (disch := omega) only [b_Planner_fillCosts_117 hg, b_Planner_fillCosts_130 hg, ↓reduceIte, nadd, nmul, nsub, nlt, neq, ncl, nvi, ndiv, nrem, exI, exJ, exV, eq_self, true_and, and_true, true_or, or_true, if_true, if_false, not_true, not_false_eq_true, false_and, and_false, decide_true, decide_false, bi_T, bi_F, bi_0, bi_1, bi_z, bft, n10, n01, Nat.reduceEqDiff, Nat.reduceLT, Nat.reduceAdd, Nat.reduceMul, reduceCtorEq, c_costAt]
              have f3 : Fr [34, 45] I I3 := Fr_tr g1 (Fr_x (by decide) r1)
              refine c_tellLast hg (LJ_Fr (by decide) f3 hL) (env_EB hS.2 (by omega) (by omega) (by omega) (by omega) (by omega)) r2 (by decide) (by decide) (by decide) ?_
              intro J3 r3
              refine ⟨_, rfl, ?_⟩
              simp (disch := omega) only [b_Planner_fillCosts_141 hg, b_Planner_fillCosts_142, ↓reduceIte, nadd, nmul, nsub, nlt, neq, ncl, nvi, ndiv, nrem, exI, exJ, exV, eq_self, true_and, and_true, true_or, or_true, if_true, if_false, not_true, not_false_eq_true, false_and, and_false, decide_true, decide_false, bi_T, bi_F, bi_0, bi_1, bi_z, bft, n10, n01, Nat.reduceEqDiff, Nat.reduceLT, Nat.reduceAdd, Nat.reduceMul, reduceCtorEq]
              have ep : tg S LF k2 k p = tl LF 1 (env S k2 k (hO (S 10 2) (p / 4)) ((hO (S 10 2) (p % 4) : Nat) : Int)) 9 1 := by
                have hne : hO (S 10 2) (p / 4) ≠ hO (S 10 2) (p % 4) := by
                  intro z
                  have := congrArg (dO (S 10 2)) z
                  rw [dO_hO (by omega) q2, dO_hO (by omega) q3] at this
                  exact q1 this
                unfold tg psv
                rw [if_pos ⟨by omega, q2, q3⟩, show k - 1 + 1 = k by omega, if_pos ⟨by rw [hon.1, sOn2_lt (by omega), hon2]; rfl, hne⟩]
              refine ihp _ J3 (Fr_u (by decide) f3) (Fr_tr g2 (Fr_x (by decide) r3)) ?_ _ _
              intro f b q hf hb hq
              by_cases z : f = k2 ∧ b = k ∧ q = p
              · rw [z.1, z.2.1, z.2.2, show (k2 * 12 + k) * 16 + p / 4 * 4 + p % 4 = (k2 * 12 + k) * 16 + p by omega, u2_s, if_pos (by omega), ep]
              · rw [u2_k (by omega), r1 45 (by decide), g3 f b q hf hb hq]
                have : (b < k ∨ (b = k ∧ (f < k2 ∨ (f = k2 ∧ q < p)))) ↔ (b < k ∨ (b = k ∧ (f < k2 ∨ (f = k2 ∧ q < p + 1)))) := by constructor <;> intro y <;> omega
                by_cases y : b < k ∨ (b = k ∧ (f < k2 ∨ (f = k2 ∧ q < p)))
                · rw [if_pos y, if_pos (this.1 y)]
                · rw [if_neg y, if_neg (fun w => y (this.2 w))]
          exact inner 0 (by omega) I2 J2 g1 g2 g3 _ _
      exact mid 0 (by omega) I2 J2 g1 g2 g3 _ _ _
  refine key 1 (by omega) (Nat.le_refl _) _ J (Fr_fl (by decide) Fr_rf) Fr_rf ?_ _ _ _ _ _
  intro f b q hf hb hq
  rw [fl2_in (by omega) (by omega)]
  by_cases z : b < 1 ∨ (b = 1 ∧ (f < 0 ∨ (f = 0 ∧ q < 0)))
  · rw [if_pos z]
    unfold tg
    rw [if_neg (by omega)]
  · rw [if_neg z]
end PL
