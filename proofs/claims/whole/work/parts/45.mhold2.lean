/-! ===== holdings: the reference ===== -/
def Xh (I I' : Nat → Nat → Int32) : Prop := ∀ a k, a ≠ 104 → ¬ (a = 89 ∧ (k = 31 ∨ k = 34)) → I' a k = I a k
theorem Xh_rf {I : Nat → Nat → Int32} : Xh I I := fun _ _ _ _ => rfl
theorem Xh_tr {I I2 I3 : Nat → Nat → Int32} (h : Xh I I2) (h2 : Xh I2 I3) : Xh I I3 := fun a k h3 h4 => (h2 a k h3 h4).trans (h a k h3 h4)
theorem Xh_t {I I2 : Nat → Nat → Int32} (h : Xt I I2) : Xh I I2 := fun a k _ h4 => h a k h4
theorem Xh_u {I I2 : Nat → Nat → Int32} {k : Nat} {z : Int32} (h : Xh I I2) : Xh I (u2 I2 104 k z) := fun a j h3 h4 => by
  rw [u2_a h3]
  exact h a j h3 h4
theorem Xh_r {I I2 : Nat → Nat → Int32} (h : Xh I I2) {a : Nat} (h1 : a ≠ 104) (h2 : a ≠ 89) : I2 a = I a := funext (fun k => h a k h1 (by omega))
section MH
variable {d : Nat} {g : aG} {I : Nat → Nat → Int32} {J : Nat → Nat → Int64} {Q : aQ} {S : Nat → Nat → Nat} {T : Nat → Int32} {LF : aLF}
theorem c_findCan (hg : Geo g) (hB : SB S) (hM : MS S T (I 91)) {sc : Nat → Nat → Int32} (hL : LJ LF sc (I 91)) {b s : Nat} (hb : b < 12) (hs : s &&& sOns S b = s) (hQ : ∀ I' J', Xh I I' → Xj J J' → (∀ h q, h < 4 → q < 64 → I' 104 (64 * h + q) = bi (decide (q &&& s = q) && canS S LF h b q)) → Q none (g, I', J')) : a_call aTab aMX (d + 6) m_Mo_findCan [.ref 89, .int (nI b), .int (nI s)] (g, I, J) Q := by
  have ol := ons_lt hB b
  have hs64 : s < 64 := by have := sub_le hs; omega
  rw [e_Mo_findCan, b_Mo_findCan_0]
  have key : ∀ h, h ≤ 4 → ∀ I2 J2, Xh I I2 → Xj J J2 → (∀ h2 q, h2 < h → q < 64 → I2 104 (64 * h2 + q) = bi (decide (q &&& s = q) && canS S LF h2 b q)) → ∀ v4, a_wp aTab aMX (d + 5) m_Mo_findCan 2 [.ref 89, .int (nI b), .int (nI s), .int (nI h), v4] [] (g, I2, J2) Q := by
    refine dn ?_ ?_
    · intro I2 J2 g1 g2 g3 v4
      simp (disch := omega) only [b_Mo_findCan_2, b_Mo_findCan_66, ↓reduceIte, nadd, nmul, nsub, nlt, neq, ncl, nvi, ndiv, nrem, exI, exJ, exV, eq_self, true_and, and_true, true_or, or_true, if_true, if_false, not_true, not_false_eq_true, false_and, and_false, decide_true, decide_false, bi_T, bi_F, bi_0, bi_1, bi_z, bft, n10, n01, Nat.reduceEqDiff, Nat.reduceLT, Nat.reduceAdd, Nat.reduceMul, reduceCtorEq, Nat.lt_irrefl]
      exact hQ I2 J2 g1 g2 g3
    · intro h hh ih I2 J2 g1 g2 g3 v4
      simp (disch := omega) only [b_Mo_findCan_2, b_Mo_findCan_7, ↓reduceIte, nadd, nmul, nsub, nlt, neq, ncl, nvi, ndiv, nrem, exI, exJ, exV, eq_self, true_and, and_true, true_or, or_true, if_true, if_false, not_true, not_false_eq_true, false_and, and_false, decide_true, decide_false, bi_T, bi_F, bi_0, bi_1, bi_z, bft, n10, n01, Nat.reduceEqDiff, Nat.reduceLT, Nat.reduceAdd, Nat.reduceMul, reduceCtorEq, hh]
      have inner : ∀ k, k ≤ 64 → ∀ I2 J2, Xh I I2 → Xj J J2 → (∀ h2 q, h2 < h → q < 64 → I2 104 (64 * h2 + q) = bi (decide (q &&& s = q) && canS S LF h2 b q)) → (∀ q, q < k → I2 104 (64 * h + q) = bi (decide (q &&& s = q) && canS S LF h b q)) → a_wp aTab aMX (d + 5) m_Mo_findCan 10 [.ref 89, .int (nI b), .int (nI s), .int (nI h), .int (nI k)] [] (g, I2, J2) Q := by
        refine dn ?_ ?_
        · intro I2 J2 g1 g2 g3 g4
          simp (disch := omega) only [b_Mo_findCan_10, b_Mo_findCan_60, ↓reduceIte, nadd, nmul, nsub, nlt, neq, ncl, nvi, ndiv, nrem, exI, exJ, exV, eq_self, true_and, and_true, true_or, or_true, if_true, if_false, not_true, not_false_eq_true, false_and, and_false, decide_true, decide_false, bi_T, bi_F, bi_0, bi_1, bi_z, bft, n10, n01, Nat.reduceEqDiff, Nat.reduceLT, Nat.reduceAdd, Nat.reduceMul, reduceCtorEq, Nat.lt_irrefl]
          refine ih I2 J2 g1 g2 ?_ _
          intro h2 q hh2 hq
          by_cases e : h2 = h
          · rw [e]; exact g4 q hq
          · exact g3 h2 q (by omega) hq
        · intro k hk ihk I2 J2 g1 g2 g3 g4
          have put : ∀ (x : Bool) (I3 : Nat → Nat → Int32) (J3 : Nat → Nat → Int64), x = (decide (k &&& s = k) && canS S LF h b k) → Xh I I3 → Xj J J3 → I3 104 = I2 104 → a_wp aTab aMX (d + 5) m_Mo_findCan 53 [.ref 89, .int (nI b), .int (nI s), .int (nI h), .int (nI k)] [.int (bi x), .int (nI (64 * h + k)), .ref 104] (g, I3, J3) Q := by
            intro x I3 J3 hx f1 f2 f3
            rw [b_Mo_findCan_53 hg]
            simp (disch := omega) only [↓reduceIte, nadd, nmul, nsub, nlt, neq, ncl, nvi, ndiv, nrem, exI, exJ, exV, eq_self, true_and, and_true, true_or, or_true, if_true, if_false, not_true, not_false_eq_true, false_and, and_false, decide_true, decide_false, bi_T, bi_F, bi_0, bi_1, bi_z, bft, n10, n01, Nat.reduceEqDiff, Nat.reduceLT, Nat.reduceAdd, Nat.reduceMul, reduceCtorEq]
            refine ihk _ J3 (Xh_u f1) f2 ?_ ?_
            · intro h2 q hh2 hq
              rw [u2_k (by omega), f3]
              exact g3 h2 q hh2 hq
            · intro q hq
              by_cases e : q = k
              · rw [e, u2_s, hx]
              · rw [u2_k (by omega), f3]
                exact g4 q (by omega)
          rw [b_Mo_findCan_10]
          by_cases q1 : k &&& s = k
          · simp (disch := omega) only [b_Mo_findCan_17 hg, b_Mo_findCan_37 hg, ↓reduceIte, nadd, nmul, nsub, nlt, neq, ncl, nvi, ndiv, nrem, exI, exJ, exV, eq_self, true_and, and_true, true_or, or_true, if_true, if_false, not_true, not_false_eq_true, false_and, and_false, decide_true, decide_false, bi_T, bi_F, bi_0, bi_1, bi_z, bft, n10, n01, Nat.reduceEqDiff, Nat.reduceLT, Nat.reduceAdd, Nat.reduceMul, reduceCtorEq, hk, nsubm, q1]
            refine c_mCanHold hg hB (by rw [Xh_r g1 (by decide) (by decide)]; exact hM) (by rw [Xh_r g1 (by decide) (by decide)]; exact hL) hh hb (sub_tr q1 hs) ?_
            intro I3 J3 r1 r2
            refine ⟨_, rfl, ?_⟩
            have f3 : I3 104 = I2 104 := Xt_r r1 (by decide)
            have p1 := put (canS S LF h b k) I3 J3 (by rw [decide_eq_true q1, Bool.true_and]) (Xh_tr g1 (Xh_t r1)) (Xj_tr g2 r2) f3
            cases qc : canS S LF h b k
            · rw [qc] at p1
              simp (disch := omega) only [b_Mo_findCan_45, b_Mo_findCan_52, ↓reduceIte, nadd, nmul, nsub, nlt, neq, ncl, nvi, ndiv, nrem, exI, exJ, exV, eq_self, true_and, and_true, true_or, or_true, if_true, if_false, not_true, not_false_eq_true, false_and, and_false, decide_true, decide_false, bi_T, bi_F, bi_0, bi_1, bi_z, bft, n10, n01, Nat.reduceEqDiff, Nat.reduceLT, Nat.reduceAdd, Nat.reduceMul, reduceCtorEq]
              exact p1
            · rw [qc] at p1
              simp (disch := omega) only [b_Mo_findCan_45, b_Mo_findCan_48, ↓reduceIte, nadd, nmul, nsub, nlt, neq, ncl, nvi, ndiv, nrem, exI, exJ, exV, eq_self, true_and, and_true, true_or, or_true, if_true, if_false, not_true, not_false_eq_true, false_and, and_false, decide_true, decide_false, bi_T, bi_F, bi_0, bi_1, bi_z, bft, n10, n01, Nat.reduceEqDiff, Nat.reduceLT, Nat.reduceAdd, Nat.reduceMul, reduceCtorEq]
              exact p1
          · simp (disch := omega) only [b_Mo_findCan_17 hg, b_Mo_findCan_52, ↓reduceIte, nadd, nmul, nsub, nlt, neq, ncl, nvi, ndiv, nrem, exI, exJ, exV, eq_self, true_and, and_true, true_or, or_true, if_true, if_false, not_true, not_false_eq_true, false_and, and_false, decide_true, decide_false, bi_T, bi_F, bi_0, bi_1, bi_z, bft, n10, n01, Nat.reduceEqDiff, Nat.reduceLT, Nat.reduceAdd, Nat.reduceMul, reduceCtorEq, hk, nsubm, q1]
            exact put false I2 J2 (by rw [decide_eq_false q1]; rfl) g1 g2 rfl
      exact inner 0 (by omega) I2 J2 g1 g2 g3 (fun q hq => absurd hq (by omega))
  exact key 0 (by omega) I J Xh_rf Xj_rf (fun h2 q hh => absurd hh (by omega)) _
theorem c_holderIn {c f : Nat} (hc : c < 4096) (hf : f < 6) : a_call aTab aMX (d + 1) m_Mo_holderIn [.int (nI c), .int (nI f)] (g, I, J) Q = Q (some (.int (nI (dg 6 c f)))) (g, I, J) := by
  rw [e_Mo_holderIn, b_Mo_holderIn_0, hIn hc hf]
theorem c_isHolding (hg : Geo g) {cn : Nat → Nat → Bool} {c s hp : Nat} (hc : c < 4096) (hs : s < 64) (hh : hp ≤ 3) (h104 : ∀ h q, h < 4 → q < 64 → I 104 (64 * h + q) = bi (cn h q)) : a_call aTab aMX (d + 2) m_Mo_isHolding [.ref 89, .int (nI c), .int (nI s), .int (nI hp)] (g, I, J) Q = Q (some (.int (bi (isH cn hp s c)))) (g, I, J) := by
  rw [e_Mo_isHolding, b_Mo_isHolding_0]
  refine dn (P := fun k => (∀ f, f < k → (s.testBit f = false → dg 6 c f = 0) ∧ (s.testBit f = true → dg 6 c f < 3 → dg 6 c f < hp)) → ∀ v9, a_wp aTab aMX (d + 1) m_Mo_isHolding 15 [.ref 89, .int (nI c), .int (nI s), .int (nI hp), .int (nI (bl (fun f => s.testBit f && decide (dg 6 c f = 0)) k)), .int (nI (bl (fun f => s.testBit f && decide (dg 6 c f = 1)) k)), .int (nI (bl (fun f => s.testBit f && decide (dg 6 c f = 2)) k)), .int (nI (bl (fun f => s.testBit f && decide (dg 6 c f = 3)) k)), .int (nI k), v9] [] (g, I, J) Q = Q (some (.int (bi (isH cn hp s c)))) (g, I, J)) (n := 6) ?_ ?_ 0 (by omega) (fun f hf => absurd hf (by omega)) _
  · intro hv v9
    have e1 : okz s 6 c = true := decide_eq_true (fun f hf => (hv f hf).1)
    have e2 : vld hp s 6 c = true := decide_eq_true (fun f hf hz => (hv f hf).2 hz.1 hz.2)
    have eh : isH cn hp s c = (cn 0 (hset s 6 c 0) && (cn 1 (hset s 6 c 1) && (cn 2 (hset s 6 c 2) && cn 3 (hset s 6 c 3)))) := by unfold isH; rw [e1, e2]; rfl
    rw [eh]
    have z : ∀ h, bl (fun f => s.testBit f && decide (dg 6 c f = h)) 6 = hset s 6 c h := fun h => rfl
    rw [z 0, z 1, z 2, z 3]
    have l0 : hset s 6 c 0 < 64 := hset_lt
    have l1 : hset s 6 c 1 < 64 := hset_lt
    have l2 : hset s 6 c 2 < 64 := hset_lt
    have l3 : hset s 6 c 3 < 64 := hset_lt
    have a0 : I 104 (hset s 6 c 0) = bi (cn 0 (hset s 6 c 0)) := by have := h104 0 _ (by decide) l0; rw [Nat.mul_zero, Nat.zero_add] at this; exact this
    have a1 := h104 1 _ (by decide) l1
    have a2 := h104 2 _ (by decide) l2
    have a3 := h104 3 _ (by decide) l3
    simp only [Nat.reduceMul] at a1 a2 a3
    cases q0 : cn 0 (hset s 6 c 0) <;> cases q1 : cn 1 (hset s 6 c 1) <;> cases q2 : cn 2 (hset s 6 c 2) <;> cases q3 : cn 3 (hset s 6 c 3) <;> simp (disch := omega) only [b_Mo_isHolding_15, b_Mo_isHolding_141 hg, b_Mo_isHolding_151 hg, b_Mo_isHolding_164 hg, b_Mo_isHolding_178 hg, b_Mo_isHolding_192, b_Mo_isHolding_196, b_Mo_isHolding_197, ↓reduceIte, nadd, nmul, nsub, nlt, neq, ncl, nvi, ndiv, nrem, exI, exJ, exV, eq_self, true_and, and_true, true_or, or_true, if_true, if_false, not_true, not_false_eq_true, false_and, and_false, decide_true, decide_false, bi_T, bi_F, bi_0, bi_1, bi_z, bft, n10, n01, Nat.reduceEqDiff, Nat.reduceLT, Nat.reduceAdd, Nat.reduceMul, reduceCtorEq, a0, a1, a2, a3, q0, q1, q2, q3, Nat.lt_irrefl, Bool.and_true, Bool.and_false]
  · intro k hk ih hv v9
    have hd4 := dg_lt (c := c) (f := k)
    have eb : ∀ h, bl (fun f => s.testBit f && decide (dg 6 c f = h)) (k + 1) = if (s.testBit k && decide (dg 6 c k = h)) then bl (fun f => s.testBit f && decide (dg 6 c f = h)) k ||| 1 <<< k else bl (fun f => s.testBit f && decide (dg 6 c f = h)) k := fun h => rfl
    rw [eb 0, eb 1, eb 2, eb 3] at ih
    rw [b_Mo_isHolding_15]
    simp (disch := omega) only [b_Mo_isHolding_22, b_Mo_isHolding_28, ↓reduceIte, nadd, nmul, nsub, nlt, neq, ncl, nvi, ndiv, nrem, exI, exJ, exV, eq_self, true_and, and_true, true_or, or_true, if_true, if_false, not_true, not_false_eq_true, false_and, and_false, decide_true, decide_false, bi_T, bi_F, bi_0, bi_1, bi_z, bft, n10, n01, Nat.reduceEqDiff, Nat.reduceLT, Nat.reduceAdd, Nat.reduceMul, reduceCtorEq, hk, c_holderIn, c_is, bt_nI]
    by_cases qs : s.testBit k = true
    rotate_left
    · simp only [Bool.eq_false_iff.2 qs, Bool.false_and, Bool.false_eq_true, if_false] at ih
      by_cases q0 : dg 6 c k = 0
      · simp (disch := omega) only [b_Mo_isHolding_36, b_Mo_isHolding_39, b_Mo_isHolding_135, ↓reduceIte, nadd, nmul, nsub, nlt, neq, ncl, nvi, ndiv, nrem, exI, exJ, exV, eq_self, true_and, and_true, true_or, or_true, if_true, if_false, not_true, not_false_eq_true, false_and, and_false, decide_true, decide_false, bi_T, bi_F, bi_0, bi_1, bi_z, bft, n10, n01, Nat.reduceEqDiff, Nat.reduceLT, Nat.reduceAdd, Nat.reduceMul, reduceCtorEq, qs, q0]
        refine ih ?_ _
        intro f hf
        by_cases q : f = k
        · rw [q]; exact ⟨fun _ => q0, fun z => absurd z qs⟩
        · exact hv f (by omega)
      · have : isH cn hp s c = false := by
          unfold isH
          rw [show okz s 6 c = false from decide_eq_false (fun z => q0 (z k hk (Bool.eq_false_iff.2 qs)))]; rfl
        rw [this]
        simp (disch := omega) only [b_Mo_isHolding_36, b_Mo_isHolding_39, b_Mo_isHolding_44, ↓reduceIte, nadd, nmul, nsub, nlt, neq, ncl, nvi, ndiv, nrem, exI, exJ, exV, eq_self, true_and, and_true, true_or, or_true, if_true, if_false, not_true, not_false_eq_true, false_and, and_false, decide_true, decide_false, bi_T, bi_F, bi_0, bi_1, bi_z, bft, n10, n01, Nat.reduceEqDiff, Nat.reduceLT, Nat.reduceAdd, Nat.reduceMul, reduceCtorEq, qs, q0]
    rw [qs] at ih
    by_cases qv : dg 6 c k < 3 ∧ ¬ dg 6 c k < hp
    · have : isH cn hp s c = false := by
        unfold isH
        rw [show vld hp s 6 c = false from decide_eq_false (fun z => qv.2 (z k hk ⟨qs, qv.1⟩)), Bool.and_false]; rfl
      rw [this]
      simp (disch := omega) only [b_Mo_isHolding_36, b_Mo_isHolding_46, b_Mo_isHolding_52, b_Mo_isHolding_58, ↓reduceIte, nadd, nmul, nsub, nlt, neq, ncl, nvi, ndiv, nrem, exI, exJ, exV, eq_self, true_and, and_true, true_or, or_true, if_true, if_false, not_true, not_false_eq_true, false_and, and_false, decide_true, decide_false, bi_T, bi_F, bi_0, bi_1, bi_z, bft, n10, n01, Nat.reduceEqDiff, Nat.reduceLT, Nat.reduceAdd, Nat.reduceMul, reduceCtorEq, qs, qv.1, qv.2]
    have ih := ih (by
      intro f hf
      by_cases q : f = k
      · rw [q]
        refine ⟨fun z => (by rw [qs] at z; cases z), fun _ h3 => ?_⟩
        apply Classical.byContradiction
        exact fun z => qv ⟨h3, z⟩
      · exact hv f (by omega))
    have go : a_wp aTab aMX (d + 1) m_Mo_isHolding 60 [.ref 89, .int (nI c), .int (nI s), .int (nI hp), .int (nI (bl (fun f => s.testBit f && decide (dg 6 c f = 0)) k)), .int (nI (bl (fun f => s.testBit f && decide (dg 6 c f = 1)) k)), .int (nI (bl (fun f => s.testBit f && decide (dg 6 c f = 2)) k)), .int (nI (bl (fun f => s.testBit f && decide (dg 6 c f = 3)) k)), .int (nI k), .int (nI (dg 6 c k))] [] (g, I, J) Q = Q (some (.int (bi (isH cn hp s c)))) (g, I, J) := by
      have hcase : dg 6 c k = 0 ∨ dg 6 c k = 1 ∨ dg 6 c k = 2 ∨ dg 6 c k = 3 := by omega
      rcases hcase with e | e | e | e
      · simp only [e, exI, exJ, exV, eq_self, true_and, and_true, true_or, or_true, if_true, if_false, not_true, not_false_eq_true, false_and, and_false, decide_true, decide_false, bi_T, bi_F, bi_0, bi_1, bi_z, bft, n10, n01, Nat.reduceEqDiff, Nat.reduceLT, Nat.reduceAdd, Nat.reduceMul, reduceCtorEq, Bool.and_true, Bool.and_false, Nat.reduceEqDiff, Bool.false_eq_true] at ih
        simp (disch := omega) only [b_Mo_isHolding_60, b_Mo_isHolding_67, b_Mo_isHolding_74, b_Mo_isHolding_75, b_Mo_isHolding_86, b_Mo_isHolding_93, b_Mo_isHolding_94, b_Mo_isHolding_105, b_Mo_isHolding_112, b_Mo_isHolding_113, b_Mo_isHolding_124, b_Mo_isHolding_131, b_Mo_isHolding_132, b_Mo_isHolding_135, ↓reduceIte, nadd, nmul, nsub, nlt, neq, ncl, nvi, ndiv, nrem, nand, nor, nxor, nshl, nshr, exI, exJ, exV, eq_self, true_and, and_true, true_or, or_true, if_true, if_false, not_true, not_false_eq_true, false_and, and_false, decide_true, decide_false, bi_T, bi_F, bi_0, bi_1, bi_z, bft, n10, n01, Nat.reduceEqDiff, Nat.reduceLT, Nat.reduceAdd, Nat.reduceMul, reduceCtorEq, e, Nat.or_zero]
        exact ih _
      · simp only [e, exI, exJ, exV, eq_self, true_and, and_true, true_or, or_true, if_true, if_false, not_true, not_false_eq_true, false_and, and_false, decide_true, decide_false, bi_T, bi_F, bi_0, bi_1, bi_z, bft, n10, n01, Nat.reduceEqDiff, Nat.reduceLT, Nat.reduceAdd, Nat.reduceMul, reduceCtorEq, Bool.and_true, Bool.and_false, Nat.reduceEqDiff, Bool.false_eq_true] at ih
        simp (disch := omega) only [b_Mo_isHolding_60, b_Mo_isHolding_67, b_Mo_isHolding_74, b_Mo_isHolding_75, b_Mo_isHolding_86, b_Mo_isHolding_93, b_Mo_isHolding_94, b_Mo_isHolding_105, b_Mo_isHolding_112, b_Mo_isHolding_113, b_Mo_isHolding_124, b_Mo_isHolding_131, b_Mo_isHolding_132, b_Mo_isHolding_135, ↓reduceIte, nadd, nmul, nsub, nlt, neq, ncl, nvi, ndiv, nrem, nand, nor, nxor, nshl, nshr, exI, exJ, exV, eq_self, true_and, and_true, true_or, or_true, if_true, if_false, not_true, not_false_eq_true, false_and, and_false, decide_true, decide_false, bi_T, bi_F, bi_0, bi_1, bi_z, bft, n10, n01, Nat.reduceEqDiff, Nat.reduceLT, Nat.reduceAdd, Nat.reduceMul, reduceCtorEq, e, Nat.or_zero]
        exact ih _
      · simp only [e, exI, exJ, exV, eq_self, true_and, and_true, true_or, or_true, if_true, if_false, not_true, not_false_eq_true, false_and, and_false, decide_true, decide_false, bi_T, bi_F, bi_0, bi_1, bi_z, bft, n10, n01, Nat.reduceEqDiff, Nat.reduceLT, Nat.reduceAdd, Nat.reduceMul, reduceCtorEq, Bool.and_true, Bool.and_false, Nat.reduceEqDiff, Bool.false_eq_true] at ih
        simp (disch := omega) only [b_Mo_isHolding_60, b_Mo_isHolding_67, b_Mo_isHolding_74, b_Mo_isHolding_75, b_Mo_isHolding_86, b_Mo_isHolding_93, b_Mo_isHolding_94, b_Mo_isHolding_105, b_Mo_isHolding_112, b_Mo_isHolding_113, b_Mo_isHolding_124, b_Mo_isHolding_131, b_Mo_isHolding_132, b_Mo_isHolding_135, ↓reduceIte, nadd, nmul, nsub, nlt, neq, ncl, nvi, ndiv, nrem, nand, nor, nxor, nshl, nshr, exI, exJ, exV, eq_self, true_and, and_true, true_or, or_true, if_true, if_false, not_true, not_false_eq_true, false_and, and_false, decide_true, decide_false, bi_T, bi_F, bi_0, bi_1, bi_z, bft, n10, n01, Nat.reduceEqDiff, Nat.reduceLT, Nat.reduceAdd, Nat.reduceMul, reduceCtorEq, e, Nat.or_zero]
        exact ih _
      · simp only [e, exI, exJ, exV, eq_self, true_and, and_true, true_or, or_true, if_true, if_false, not_true, not_false_eq_true, false_and, and_false, decide_true, decide_false, bi_T, bi_F, bi_0, bi_1, bi_z, bft, n10, n01, Nat.reduceEqDiff, Nat.reduceLT, Nat.reduceAdd, Nat.reduceMul, reduceCtorEq, Bool.and_true, Bool.and_false, Nat.reduceEqDiff, Bool.false_eq_true] at ih
        simp (disch := omega) only [b_Mo_isHolding_60, b_Mo_isHolding_67, b_Mo_isHolding_74, b_Mo_isHolding_75, b_Mo_isHolding_86, b_Mo_isHolding_93, b_Mo_isHolding_94, b_Mo_isHolding_105, b_Mo_isHolding_112, b_Mo_isHolding_113, b_Mo_isHolding_124, b_Mo_isHolding_131, b_Mo_isHolding_132, b_Mo_isHolding_135, ↓reduceIte, nadd, nmul, nsub, nlt, neq, ncl, nvi, ndiv, nrem, nand, nor, nxor, nshl, nshr, exI, exJ, exV, eq_self, true_and, and_true, true_or, or_true, if_true, if_false, not_true, not_false_eq_true, false_and, and_false, decide_true, decide_false, bi_T, bi_F, bi_0, bi_1, bi_z, bft, n10, n01, Nat.reduceEqDiff, Nat.reduceLT, Nat.reduceAdd, Nat.reduceMul, reduceCtorEq, e, Nat.or_zero]
        exact ih _
    by_cases q3 : dg 6 c k < 3
    · have qp : dg 6 c k < hp := by
        apply Classical.byContradiction
        exact fun z => qv ⟨q3, z⟩
      simp (disch := omega) only [b_Mo_isHolding_36, b_Mo_isHolding_46, b_Mo_isHolding_52, ↓reduceIte, nadd, nmul, nsub, nlt, neq, ncl, nvi, ndiv, nrem, exI, exJ, exV, eq_self, true_and, and_true, true_or, or_true, if_true, if_false, not_true, not_false_eq_true, false_and, and_false, decide_true, decide_false, bi_T, bi_F, bi_0, bi_1, bi_z, bft, n10, n01, Nat.reduceEqDiff, Nat.reduceLT, Nat.reduceAdd, Nat.reduceMul, reduceCtorEq, qs, q3, qp]
      exact go
    · simp (disch := omega) only [b_Mo_isHolding_36, b_Mo_isHolding_46, ↓reduceIte, nadd, nmul, nsub, nlt, neq, ncl, nvi, ndiv, nrem, exI, exJ, exV, eq_self, true_and, and_true, true_or, or_true, if_true, if_false, not_true, not_false_eq_true, false_and, and_false, decide_true, decide_false, bi_T, bi_F, bi_0, bi_1, bi_z, bft, n10, n01, Nat.reduceEqDiff, Nat.reduceLT, Nat.reduceAdd, Nat.reduceMul, reduceCtorEq, qs, q3]
      exact go
theorem c_holdingsOf (hg : Geo g) (hB : SB S) (hM : MS S T (I 91)) {sc : Nat → Nat → Int32} (hL : LJ LF sc (I 91)) {b s hp : Nat} (hb : b < 12) (hs : s &&& sOns S b = s) (hh : hp ≤ 3) (hQ : ∀ I' J', Xh I I' → Xj J J' → Q (some (.int (nI (hN S LF hp b s)))) (g, I', J')) : a_call aTab aMX (d + 7) m_Mo_holdingsOf [.ref 89, .int (nI b), .int (nI s), .int (nI hp)] (g, I, J) Q := by
  have ol := ons_lt hB b
  have hs64 : s < 64 := by have := sub_le hs; omega
  rw [e_Mo_holdingsOf, b_Mo_holdingsOf_0 hg]
  refine c_findCan hg hB hM hL hb hs ?_
  intro I2 J2 g1 g2 g3
  refine ⟨rfl, ?_⟩
  have hq := hQ I2 J2 g1 g2
  have e : hN S LF hp b s = fb_ct (isH (fun h q => decide (q &&& s = q) && canS S LF h b q) hp s) 4096 := by
    unfold hN
    rw [← hn_codes hh hs64 (fun h _ => canS_0)]
    exact fb_ct_cong (fun c _ => isH_cong (fun h q _ hq _ => by rw [decide_eq_true hq, Bool.true_and]))
  rw [e] at hq
  rw [b_Mo_holdingsOf_6]
  have key : ∀ k, k ≤ 4096 → ∀ v1, a_wp aTab aMX (d + 6) m_Mo_holdingsOf 12 [.ref 89, v1, .int (nI s), .int (nI hp), .int (nI (fb_ct (isH (fun h q => decide (q &&& s = q) && canS S LF h b q) hp s) k)), .int (nI k)] [] (g, I2, J2) Q := by
    refine dn ?_ ?_
    · intro v1
      simp (disch := omega) only [b_Mo_holdingsOf_12, b_Mo_holdingsOf_47, ↓reduceIte, nadd, nmul, nsub, nlt, neq, ncl, nvi, ndiv, nrem, exI, exJ, exV, eq_self, true_and, and_true, true_or, or_true, if_true, if_false, not_true, not_false_eq_true, false_and, and_false, decide_true, decide_false, bi_T, bi_F, bi_0, bi_1, bi_z, bft, n10, n01, Nat.reduceEqDiff, Nat.reduceLT, Nat.reduceAdd, Nat.reduceMul, reduceCtorEq, Nat.lt_irrefl]
      exact hq
    · intro k hk ih v1
      rw [fb_ct_succ] at ih
      rw [b_Mo_holdingsOf_12]
      simp (disch := omega) only [b_Mo_holdingsOf_20 hg, ↓reduceIte, nadd, nmul, nsub, nlt, neq, ncl, nvi, ndiv, nrem, exI, exJ, exV, eq_self, true_and, and_true, true_or, or_true, if_true, if_false, not_true, not_false_eq_true, false_and, and_false, decide_true, decide_false, bi_T, bi_F, bi_0, bi_1, bi_z, bft, n10, n01, Nat.reduceEqDiff, Nat.reduceLT, Nat.reduceAdd, Nat.reduceMul, reduceCtorEq, hk, c_isHolding hg hk hs64 hh g3]
      cases q : isH (fun h q => decide (q &&& s = q) && canS S LF h b q) hp s k
      · rw [q] at ih
        simp (disch := omega) only [b_Mo_holdingsOf_30, b_Mo_holdingsOf_37, b_Mo_holdingsOf_38, ↓reduceIte, nadd, nmul, nsub, nlt, neq, ncl, nvi, ndiv, nrem, exI, exJ, exV, eq_self, true_and, and_true, true_or, or_true, if_true, if_false, not_true, not_false_eq_true, false_and, and_false, decide_true, decide_false, bi_T, bi_F, bi_0, bi_1, bi_z, bft, n10, n01, Nat.reduceEqDiff, Nat.reduceLT, Nat.reduceAdd, Nat.reduceMul, reduceCtorEq]
        exact ih _
      · rw [q] at ih
        simp (disch := omega) only [b_Mo_holdingsOf_30, b_Mo_holdingsOf_33, b_Mo_holdingsOf_38, ↓reduceIte, nadd, nmul, nsub, nlt, neq, ncl, nvi, ndiv, nrem, exI, exJ, exV, eq_self, true_and, and_true, true_or, or_true, if_true, if_false, not_true, not_false_eq_true, false_and, and_false, decide_true, decide_false, bi_T, bi_F, bi_0, bi_1, bi_z, bft, n10, n01, Nat.reduceEqDiff, Nat.reduceLT, Nat.reduceAdd, Nat.reduceMul, reduceCtorEq]
        exact ih _
  exact key 0 (by omega) _
end MH
