/-! ===== rows filled, trailing zeros, bits of longs, frames ===== -/
def fl2 {α : Type} (f : Nat → Nat → α) (r a b : Nat) (v : α) : Nat → Nat → α := fun x j => if x = r ∧ a ≤ j ∧ j < b then v else f x j
theorem fl2_0 {α : Type} {f : Nat → Nat → α} {r a : Nat} {v : α} : fl2 f r a a v = f := by
  funext x j
  exact if_neg (by omega)
theorem fl2_s {α : Type} {f : Nat → Nat → α} {r a b : Nat} {v : α} (h : a ≤ b) : u2 (fl2 f r a b v) r b v = fl2 f r a (b + 1) v := by
  funext x j
  unfold u2 fl2
  by_cases q : x = r ∧ j = b
  · rw [if_pos q, if_pos (by omega)]
  · rw [if_neg q]
    by_cases q2 : x = r ∧ a ≤ j ∧ j < b
    · rw [if_pos q2, if_pos (by omega)]
    · rw [if_neg q2, if_neg (by omega)]
theorem fl2_r {α : Type} {f : Nat → Nat → α} {r a b x : Nat} {v : α} (h : x ≠ r) : fl2 f r a b v x = f x := by
  funext j
  exact if_neg (fun z => h z.1)
theorem fl2_in {α : Type} {f : Nat → Nat → α} {r a b j : Nat} {v : α} (h1 : a ≤ j) (h2 : j < b) : fl2 f r a b v r j = v := if_pos ⟨rfl, h1, h2⟩
theorem fl2_out {α : Type} {f : Nat → Nat → α} {r a b j : Nat} {v : α} (h : j < a ∨ b ≤ j) : fl2 f r a b v r j = f r j := if_neg (by omega)
def Fr {α : Type} (L : List Nat) (f f2 : Nat → Nat → α) : Prop := ∀ a, a ∉ L → f2 a = f a
theorem Fr_rf {α : Type} {L : List Nat} {f : Nat → Nat → α} : Fr L f f := fun _ _ => rfl
theorem Fr_tr {α : Type} {L : List Nat} {f f2 f3 : Nat → Nat → α} (h : Fr L f f2) (h2 : Fr L f2 f3) : Fr L f f3 := fun a ha => (h2 a ha).trans (h a ha)
theorem Fr_w {α : Type} {L L2 : List Nat} {f f2 : Nat → Nat → α} (hL : L.all (fun a => L2.contains a) = true) (h : Fr L f f2) : Fr L2 f f2 := fun a ha => h a (fun z => ha (by
  have := List.all_eq_true.1 hL a z
  exact List.contains_iff_mem.1 this))
theorem Fr_u {α : Type} {L : List Nat} {r k : Nat} {f f2 : Nat → Nat → α} {v : α} (hr : L.contains r = true) (h : Fr L f f2) : Fr L f (u2 f2 r k v) := fun a ha => (u2_r (fun (z : a = r) => ha (by rw [z]; exact List.contains_iff_mem.1 hr))).trans (h a ha)
theorem Fr_fl {α : Type} {L : List Nat} {r a b : Nat} {f f2 : Nat → Nat → α} {v : α} (hr : L.contains r = true) (h : Fr L f f2) : Fr L f (fl2 f2 r a b v) := fun x ha => (fl2_r (fun (z : x = r) => ha (by rw [z]; exact List.contains_iff_mem.1 hr))).trans (h x ha)
theorem Fr_x {α : Type} {L : List Nat} {r : Nat} {f f2 : Nat → Nat → α} (hr : L.contains r = true) (h : Xr r f f2) : Fr L f f2 := fun a ha => h a (fun z => ha (by rw [z]; exact List.contains_iff_mem.1 hr))
theorem Fr_at {α : Type} {L : List Nat} {f f2 : Nat → Nat → α} (h : Fr L f f2) (a : Nat) (ha : L.contains a = false) : f2 a = f a := h a (fun z => by rw [List.contains_iff_mem.2 z] at ha; cases ha)
theorem CS_Fr {L : List Nat} {S : Nat → Nat → Nat} {I I2 : Nat → Nat → Int32} (hL : L.all (fun a => decide (a < 7 ∨ 20 < a)) = true) (h : Fr L I I2) (hS : CS S I) : CS S I2 := ⟨fun a k h1 h2 => by
  rw [h a (fun z => by have := of_decide_eq_true (List.all_eq_true.1 hL a z); omega)]
  exact hS.1 a k h1 h2, hS.2⟩
theorem LJ_Fr {L : List Nat} {LF : aLF} {W : Nat → Int32} {I I2 : Nat → Nat → Int32} (hL : L.all (fun a => decide (a < 7 ∨ 20 < a)) = true) (h : Fr L I I2) (hS : LJ LF I W) : LJ LF I2 W := LJ_cong (fun a h1 h2 => h a (fun z => by have := of_decide_eq_true (List.all_eq_true.1 hL a z); omega)) (fun _ _ => rfl) hS
section JD
variable {d : Nat} {g : aG} {I : Nat → Nat → Int32} {J : Nat → Nat → Int64} {Q : aQ}
theorem c_fillI {r n : Nat} {v : Int32} (hk : gK g r = 12) (hn : gN g r = n) (h : n < 2147483648) : a_call aTab aMX (d + 1) m_J_fillI [.ref r, .int v] (g, I, J) Q = Q none (g, fl2 I r 0 n v, J) := by
  rw [e_J_fillI, b_J_fillI_0, hk, show (a_arr 12 = true) = True from eq_true (by decide), true_and, hn]
  have e0 : fl2 I r 0 0 v = I := fl2_0
  rw [← e0]
  refine dn (P := fun k => a_wp aTab aMX d m_J_fillI 5 [.ref r, .int v, .int (nI k), .int (nI n)] [] (g, fl2 I r 0 k v, J) Q = Q none (g, fl2 (fl2 I r 0 0 v) r 0 n v, J)) (n := n) ?_ ?_ 0 (by omega)
  · rw [e0]
    simp (disch := omega) only [b_J_fillI_5, b_J_fillI_20, ↓reduceIte, nadd, nmul, nsub, nlt, neq, ncl, nvi, ndiv, nrem, nand, nor, nxor, nshl, nshr, exI, exJ, exV, eq_self, true_and, and_true, true_or, or_true, if_true, if_false, not_true, not_false_eq_true, false_and, and_false, decide_true, decide_false, bi_T, bi_F, bi_0, bi_1, bi_z, bft, n10, n01, Nat.reduceEqDiff, Nat.reduceLT, Nat.reduceAdd, Nat.reduceMul, reduceCtorEq, Nat.lt_irrefl]
  · intro k hk2 ih
    rw [← fl2_s (by omega)] at ih
    rw [b_J_fillI_5]
    simp (disch := omega) only [b_J_fillI_10, ↓reduceIte, nadd, nmul, nsub, nlt, neq, ncl, nvi, ndiv, nrem, nand, nor, nxor, nshl, nshr, exI, exJ, exV, eq_self, true_and, and_true, true_or, or_true, if_true, if_false, not_true, not_false_eq_true, false_and, and_false, decide_true, decide_false, bi_T, bi_F, bi_0, bi_1, bi_z, bft, n10, n01, Nat.reduceEqDiff, Nat.reduceLT, Nat.reduceAdd, Nat.reduceMul, reduceCtorEq, hk2, hk, hn]
    exact ih
theorem c_fillL {r n : Nat} {v : Int64} (hk : gK g r = 13) (hn : gN g r = n) (h : n < 2147483648) : a_call aTab aMX (d + 1) m_J_fillL [.ref r, .long v] (g, I, J) Q = Q none (g, I, fl2 J r 0 n v) := by
  rw [e_J_fillL, b_J_fillL_0, hk, show (a_arr 13 = true) = True from eq_true (by decide), true_and, hn]
  have e0 : fl2 J r 0 0 v = J := fl2_0
  rw [← e0]
  refine dn (P := fun k => a_wp aTab aMX d m_J_fillL 6 [.ref r, .long v, aU, .int (nI k), .int (nI n)] [] (g, I, fl2 J r 0 k v) Q = Q none (g, I, fl2 (fl2 J r 0 0 v) r 0 n v)) (n := n) ?_ ?_ 0 (by omega)
  · rw [e0]
    simp (disch := omega) only [b_J_fillL_6, b_J_fillL_22, ↓reduceIte, nadd, nmul, nsub, nlt, neq, ncl, nvi, ndiv, nrem, nand, nor, nxor, nshl, nshr, exI, exJ, exV, eq_self, true_and, and_true, true_or, or_true, if_true, if_false, not_true, not_false_eq_true, false_and, and_false, decide_true, decide_false, bi_T, bi_F, bi_0, bi_1, bi_z, bft, n10, n01, Nat.reduceEqDiff, Nat.reduceLT, Nat.reduceAdd, Nat.reduceMul, reduceCtorEq, Nat.lt_irrefl]
  · intro k hk2 ih
    rw [← fl2_s (by omega)] at ih
    rw [b_J_fillL_6]
    simp (disch := omega) only [b_J_fillL_12, ↓reduceIte, nadd, nmul, nsub, nlt, neq, ncl, nvi, ndiv, nrem, nand, nor, nxor, nshl, nshr, exI, exJ, exV, eq_self, true_and, and_true, true_or, or_true, if_true, if_false, not_true, not_false_eq_true, false_and, and_false, decide_true, decide_false, bi_T, bi_F, bi_0, bi_1, bi_z, bft, n10, n01, Nat.reduceEqDiff, Nat.reduceLT, Nat.reduceAdd, Nat.reduceMul, reduceCtorEq, hk2, hk, hn]
    exact ih
theorem c_rng {n a b : Nat} (hn : n < 2147483648) (h1 : a ≤ b) (h2 : b ≤ n) : a_call aTab aMX (d + 1) m_J_rng [.int (nI n), .int (nI a), .int (nI b)] (g, I, J) Q = Q none (g, I, J) := by
  have q1 : ¬ b < a := by omega
  have q2 : ¬ n < b := by omega
  rw [e_J_rng]
  simp (disch := omega) only [b_J_rng_0, b_J_rng_46, b_J_rng_59, b_J_rng_73, ↓reduceIte, nadd, nmul, nsub, nlt, neq, ncl, nvi, ndiv, nrem, nand, nor, nxor, nshl, nshr, exI, exJ, exV, eq_self, true_and, and_true, true_or, or_true, if_true, if_false, not_true, not_false_eq_true, false_and, and_false, decide_true, decide_false, bi_T, bi_F, bi_0, bi_1, bi_z, bft, n10, n01, Nat.reduceEqDiff, Nat.reduceLT, Nat.reduceAdd, Nat.reduceMul, reduceCtorEq, q1, q2, Nat.not_lt_zero]
theorem c_fillIr {r n a b : Nat} {v : Int32} (hk : gK g r = 12) (hn : gN g r = n) (h : n < 2147483648) (h1 : a ≤ b) (h2 : b ≤ n) : a_call aTab aMX (d + 2) m_J_fillIr [.ref r, .int (nI a), .int (nI b), .int v] (g, I, J) Q = Q none (g, fl2 I r a b v, J) := by
  rw [e_J_fillIr, b_J_fillIr_0, hk, show (a_arr 12 = true) = True from eq_true (by decide), true_and, hn, c_rng h h1 h2]
  simp only [exV, true_and]
  rw [b_J_fillIr_7]
  have e0 : fl2 I r a a v = I := fl2_0
  rw [← e0]
  refine dn (P := fun k => a ≤ k → ∀ v1, a_wp aTab aMX (d + 1) m_J_fillIr 10 [.ref r, v1, .int (nI b), .int v, .int (nI k)] [] (g, fl2 I r a k v, J) Q = Q none (g, fl2 (fl2 I r a a v) r a b v, J)) (n := b) ?_ ?_ a h1 (Nat.le_refl _) _
  · intro _ v1
    rw [e0]
    simp (disch := omega) only [b_J_fillIr_10, b_J_fillIr_27, ↓reduceIte, nadd, nmul, nsub, nlt, neq, ncl, nvi, ndiv, nrem, nand, nor, nxor, nshl, nshr, exI, exJ, exV, eq_self, true_and, and_true, true_or, or_true, if_true, if_false, not_true, not_false_eq_true, false_and, and_false, decide_true, decide_false, bi_T, bi_F, bi_0, bi_1, bi_z, bft, n10, n01, Nat.reduceEqDiff, Nat.reduceLT, Nat.reduceAdd, Nat.reduceMul, reduceCtorEq, Nat.lt_irrefl]
  · intro k hk2 ih ha v1
    have ih := ih (by omega)
    rw [← fl2_s ha] at ih
    rw [b_J_fillIr_10]
    simp (disch := omega) only [b_J_fillIr_16, ↓reduceIte, nadd, nmul, nsub, nlt, neq, ncl, nvi, ndiv, nrem, nand, nor, nxor, nshl, nshr, exI, exJ, exV, eq_self, true_and, and_true, true_or, or_true, if_true, if_false, not_true, not_false_eq_true, false_and, and_false, decide_true, decide_false, bi_T, bi_F, bi_0, bi_1, bi_z, bft, n10, n01, Nat.reduceEqDiff, Nat.reduceLT, Nat.reduceAdd, Nat.reduceMul, reduceCtorEq, hk2, hk, hn]
    exact ih _
theorem c_fillLr {r n a b : Nat} {v : Int64} (hk : gK g r = 13) (hn : gN g r = n) (h : n < 2147483648) (h1 : a ≤ b) (h2 : b ≤ n) : a_call aTab aMX (d + 2) m_J_fillLr [.ref r, .int (nI a), .int (nI b), .long v] (g, I, J) Q = Q none (g, I, fl2 J r a b v) := by
  rw [e_J_fillLr, b_J_fillLr_0, hk, show (a_arr 13 = true) = True from eq_true (by decide), true_and, hn, c_rng h h1 h2]
  simp only [exV, true_and]
  rw [b_J_fillLr_7]
  have e0 : fl2 J r a a v = J := fl2_0
  rw [← e0]
  refine dn (P := fun k => a ≤ k → ∀ v1, a_wp aTab aMX (d + 1) m_J_fillLr 10 [.ref r, v1, .int (nI b), .long v, aU, .int (nI k)] [] (g, I, fl2 J r a k v) Q = Q none (g, I, fl2 (fl2 J r a a v) r a b v)) (n := b) ?_ ?_ a h1 (Nat.le_refl _) _
  · intro _ v1
    rw [e0]
    simp (disch := omega) only [b_J_fillLr_10, b_J_fillLr_27, ↓reduceIte, nadd, nmul, nsub, nlt, neq, ncl, nvi, ndiv, nrem, nand, nor, nxor, nshl, nshr, exI, exJ, exV, eq_self, true_and, and_true, true_or, or_true, if_true, if_false, not_true, not_false_eq_true, false_and, and_false, decide_true, decide_false, bi_T, bi_F, bi_0, bi_1, bi_z, bft, n10, n01, Nat.reduceEqDiff, Nat.reduceLT, Nat.reduceAdd, Nat.reduceMul, reduceCtorEq, Nat.lt_irrefl]
  · intro k hk2 ih ha v1
    have ih := ih (by omega)
    rw [← fl2_s ha] at ih
    rw [b_J_fillLr_10]
    simp (disch := omega) only [b_J_fillLr_16, ↓reduceIte, nadd, nmul, nsub, nlt, neq, ncl, nvi, ndiv, nrem, nand, nor, nxor, nshl, nshr, exI, exJ, exV, eq_self, true_and, and_true, true_or, or_true, if_true, if_false, not_true, not_false_eq_true, false_and, and_false, decide_true, decide_false, bi_T, bi_F, bi_0, bi_1, bi_z, bft, n10, n01, Nat.reduceEqDiff, Nat.reduceLT, Nat.reduceAdd, Nat.reduceMul, reduceCtorEq, hk2, hk, hn]
    exact ih _
end JD
/-! bits of longs -/
theorem lshl1 {k : Nat} (hk : k < 64) : lN 1 <<< ((nI k).toInt64 &&& 63) = lN (1 <<< k) := by
  rw [wb_shl 1 hk, Nat.one_mul, Nat.one_shiftLeft]
theorem lbit {n k : Nat} (hn : n < 18446744073709551616) (hk : k < 64) : ((lN n).toUInt64 >>> ((nI k).toInt64.toUInt64 &&& Int64.toUInt64 63)).toInt64 &&& lN 1 = lN (n.testBit k).toNat := by
  rw [show lN 1 = (1 : Int64) from rfl, wb_bit (by omega) hk, Nat.testBit_eq_decide_div_mod_eq]
  congr 1
  rcases Nat.mod_two_eq_zero_or_one (n / 2 ^ k) with h | h <;> rw [h] <;> rfl
theorem lb1 {b : Bool} : (lN b.toNat = lN 1) = (b = true) := by cases b <;> decide
theorem lb0 {b : Bool} : (lN b.toNat = lN 0) = (b = false) := by cases b <;> decide
theorem bl64 (p : Nat → Bool) : bl p 64 < 18446744073709551616 := bl_lt p 64
theorem bl64b (p : Nat → Bool) {k : Nat} (hk : k < 64) : (bl p 64).testBit k = p k := by rw [bl_bit, decide_eq_true hk, Bool.true_and]
/-! the lowest bit -/
theorem tz_dec {n k : Nat} (h : n.testBit k = true) (hl : ∀ i, i < k → n.testBit i = false) : ∃ m, n = 2 ^ k * (2 * m + 1) := by
  have e : n % 2 ^ k = 0 := by
    apply Nat.eq_of_testBit_eq
    intro i
    rw [Nat.testBit_mod_two_pow, Nat.zero_testBit]
    by_cases q : i < k
    · rw [hl i q, Bool.and_false]
    · rw [decide_eq_false q, Bool.false_and]
  have e2 : n = 2 ^ k * (n / 2 ^ k) := by
    have := Nat.div_add_mod n (2 ^ k)
    rw [e, Nat.add_zero] at this
    exact this.symm
  rw [Nat.testBit_eq_decide_div_mod_eq] at h
  have h := of_decide_eq_true h
  refine ⟨n / 2 ^ k / 2, ?_⟩
  have e3 : 2 * (n / 2 ^ k / 2) + 1 = n / 2 ^ k := by omega
  rw [e3]
  exact e2
theorem tz_mask {n k : Nat} (hk : k < 32) (h : n.testBit k = true) (hl : ∀ i, i < k → n.testBit i = false) : (nI n ^^^ (-1 : Int32)) &&& (nI n - nI 1) = nI (2 ^ k - 1) := by
  obtain ⟨m, e⟩ := tz_dec h hl
  have hp : 0 < 2 ^ k := Nat.two_pow_pos k
  have e1 : n - 1 = 2 ^ k * (2 * m) + (2 ^ k - 1) := by
    rw [e, Nat.mul_add, Nat.mul_one]
    omega
  have h1 : 1 ≤ n := by
    rw [e]
    exact Nat.mul_pos hp (by omega)
  rw [nsub h1]
  apply b_ext
  intro i hi
  rw [b_and, b_xor, b_m1 i hi, bt_nI hi, bt_nI hi, bt_nI hi, Nat.testBit_two_pow_sub_one, Bool.xor_true, e1, Nat.testBit_two_pow_mul_add _ (by omega), Nat.testBit_two_pow_sub_one]
  by_cases q : i < k
  · rw [hl i q, if_pos q, decide_eq_true q]
    rfl
  · rw [if_neg q, decide_eq_false q]
    by_cases q2 : i = k
    · subst q2
      rw [h]
      rfl
    · rw [e, show 2 ^ k * (2 * m + 1) = 2 ^ k * (2 * m + 1) + 0 by omega, Nat.testBit_two_pow_mul_add _ hp, if_neg q]
      obtain ⟨j, hj⟩ : ∃ j, i - k = j + 1 := ⟨i - k - 1, by omega⟩
      rw [hj, Nat.testBit_succ, Nat.testBit_succ, show (2 * m + 1) / 2 = m by omega, show 2 * m / 2 = m by omega]
      cases m.testBit j <;> rfl
section NT
variable {d : Nat} {g : aG} {I : Nat → Nat → Int32} {J : Nat → Nat → Int64} {Q : aQ}
def ntF (x : Int32) : Int32 :=
  if nI 0 < x then
    let p1 := if nI 65536 < x then ((x.toUInt32 >>> ((nI 16).toUInt32 &&& Int32.toUInt32 31)).toInt32, nI 1 + nI 16) else (x, nI 1)
    let p2 := if nI 256 < p1.1 then ((p1.1.toUInt32 >>> ((nI 8).toUInt32 &&& Int32.toUInt32 31)).toInt32, p1.2 + nI 8) else p1
    let p3 := if nI 16 < p2.1 then ((p2.1.toUInt32 >>> ((nI 4).toUInt32 &&& Int32.toUInt32 31)).toInt32, p2.2 + nI 4) else p2
    let p4 := if nI 4 < p3.1 then ((p3.1.toUInt32 >>> ((nI 2).toUInt32 &&& Int32.toUInt32 31)).toInt32, p3.2 + nI 2) else p3
    p4.2 + ((p4.1.toUInt32 >>> ((nI 1).toUInt32 &&& Int32.toUInt32 31)).toInt32)
  else x &&& nI 32
theorem ntF_ok : ∀ k : Fin 32, ntF (nI (2 ^ k.1 - 1)) = nI k.1 := by decide +kernel
theorem c_ntzI {n k : Nat} (hk : k < 32) (h : n.testBit k = true) (hl : ∀ i, i < k → n.testBit i = false) : a_call aTab aMX (d + 1) m_J_ntzI [.int (nI n)] (g, I, J) Q = Q (some (.int (nI k))) (g, I, J) := by
  rw [e_J_ntzI, b_J_ntzI_0, tz_mask hk h hl, ← ntF_ok ⟨k, hk⟩]
  show _ = Q (some (.int (ntF (nI (2 ^ k - 1))))) (g, I, J)
  generalize nI (2 ^ k - 1) = x
  unfold ntF
  by_cases q1 : nI 0 < x
  · rw [if_pos q1, if_pos q1, b_J_ntzI_17]
    by_cases q2 : nI 65536 < x
    · simp only [q2, if_true]
      rw [b_J_ntzI_26]
      generalize (x.toUInt32 >>> ((nI 16).toUInt32 &&& Int32.toUInt32 31)).toInt32 = y
      generalize nI 1 + nI 16 = c
      rw [b_J_ntzI_34]
      by_cases q3 : nI 256 < y
      · simp only [q3, if_true]
        rw [b_J_ntzI_41, b_J_ntzI_49]
        by_cases q4 : nI 16 < (y.toUInt32 >>> ((nI 8).toUInt32 &&& Int32.toUInt32 31)).toInt32
        · simp only [q4, if_true]
          rw [b_J_ntzI_55, b_J_ntzI_62]
          split
          · rw [b_J_ntzI_67, b_J_ntzI_74]
          · rw [b_J_ntzI_74]
        · simp only [q4, if_false]
          rw [b_J_ntzI_62]
          split
          · rw [b_J_ntzI_67, b_J_ntzI_74]
          · rw [b_J_ntzI_74]
      · simp only [q3, if_false]
        rw [b_J_ntzI_49]
        by_cases q4 : nI 16 < y
        · simp only [q4, if_true]
          rw [b_J_ntzI_55, b_J_ntzI_62]
          split
          · rw [b_J_ntzI_67, b_J_ntzI_74]
          · rw [b_J_ntzI_74]
        · simp only [q4, if_false]
          rw [b_J_ntzI_62]
          split
          · rw [b_J_ntzI_67, b_J_ntzI_74]
          · rw [b_J_ntzI_74]
    · simp only [q2, if_false]
      rw [b_J_ntzI_34]
      by_cases q3 : nI 256 < x
      · simp only [q3, if_true]
        rw [b_J_ntzI_41, b_J_ntzI_49]
        by_cases q4 : nI 16 < (x.toUInt32 >>> ((nI 8).toUInt32 &&& Int32.toUInt32 31)).toInt32
        · simp only [q4, if_true]
          rw [b_J_ntzI_55, b_J_ntzI_62]
          split
          · rw [b_J_ntzI_67, b_J_ntzI_74]
          · rw [b_J_ntzI_74]
        · simp only [q4, if_false]
          rw [b_J_ntzI_62]
          split
          · rw [b_J_ntzI_67, b_J_ntzI_74]
          · rw [b_J_ntzI_74]
      · simp only [q3, if_false]
        rw [b_J_ntzI_49]
        by_cases q4 : nI 16 < x
        · simp only [q4, if_true]
          rw [b_J_ntzI_55, b_J_ntzI_62]
          split
          · rw [b_J_ntzI_67, b_J_ntzI_74]
          · rw [b_J_ntzI_74]
        · simp only [q4, if_false]
          rw [b_J_ntzI_62]
          split
          · rw [b_J_ntzI_67, b_J_ntzI_74]
          · rw [b_J_ntzI_74]
  · rw [if_neg q1, if_neg q1, b_J_ntzI_12]
theorem c_ntzL {n k : Nat} (hn : n < 18446744073709551616) (h : n.testBit k = true) (hl : ∀ i, i < k → n.testBit i = false) : a_call aTab aMX (d + 2) m_J_ntzL [.long (lN n)] (g, I, J) Q = Q (some (.int (nI k))) (g, I, J) := by
  have hk : k < 64 := by
    by_cases q : k < 64
    · exact q
    · rw [Nat.testBit_lt_two_pow (Nat.lt_of_lt_of_le (show n < 2 ^ 64 from hn) (Nat.pow_le_pow_right (n := 2) (by decide) (show 64 ≤ k by omega)))] at h
      cases h
  rw [e_J_ntzL, b_J_ntzL_0, lN_i]
  by_cases q : k < 32
  · have ne : ¬ nI n = nI 0 := by
      intro z
      have := bt_nI (n := n) q
      rw [z, bt_nI q, Nat.zero_testBit, h] at this
      cases this
    rw [if_neg ne, b_J_ntzL_21, c_ntzI q h hl]
    simp only [exI, b_J_ntzL_25]
  · have eq0 : nI n = nI 0 := by
      apply b_ext
      intro i hi
      rw [bt_nI hi, bt_nI hi, hl i (by omega), Nat.zero_testBit]
    rw [if_pos eq0, b_J_ntzL_7, wb_shr (by omega) (by decide), lN_i]
    have e : ∀ i, (n / 2 ^ 32).testBit i = n.testBit (32 + i) := fun i => by rw [← Nat.shiftRight_eq_div_pow, Nat.testBit_shiftRight]
    rw [c_ntzI (k := k - 32) (by omega) (by rw [e, show 32 + (k - 32) = k by omega]; exact h) (fun i hi => by rw [e]; exact hl _ (by omega))]
    simp only [exI, b_J_ntzL_17, b_J_ntzL_25, nadd]
    rw [show 32 + (k - 32) = k by omega]
end NT
