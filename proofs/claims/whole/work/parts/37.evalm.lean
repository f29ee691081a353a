/-! ===== what a text tells: the reference's side ===== -/
section CR
variable {d : Nat} {g : aG} {I : Nat → Nat → Int32} {E : Nat → Int}
/-- the reference's reckoning: an operation's answer, and whether it is broken -/
theorem c_reckon (hg : Geo g) {J : Nat → Nat → Int64} {Q : aQ} {o : Nat} {x y : Int} (hI : I 89 31 = nI 0) (ho : 2 ≤ o) (ho2 : o ≤ 8) (h1 : -1000000000 ≤ x) (h2 : x ≤ 1000000000) (h3 : -1000000000 ≤ y) (h4 : y ≤ 1000000000) : a_call aTab aMX (d + 1) m_Mo_reckon [.ref 89, .int (nI (o + 18)), .long (lI x), .long (lI y)] (g, I, J) Q = if o = 5 ∧ y = 0 then Q (some (.long (lI 0))) (g, u2 I 89 31 (nI 1), J) else Q (some (.long (lI (jr o x y)))) (g, I, J) := by
  rw [e_Mo_reckon, b_Mo_reckon_0]
  have z0 : lN 0 = lI 0 := (lI_n 0).symm
  have z1 : lN 1 = lI 1 := (lI_n 1).symm
  have hc : o = 2 ∨ o = 3 ∨ o = 4 ∨ o = 5 ∨ o = 6 ∨ o = 7 ∨ o = 8 := by omega
  unfold jr
  rcases hc with rfl | rfl | rfl | rfl | rfl | rfl | rfl
  · simp (disch := omega) only [b_Mo_reckon_40, b_Mo_reckon_45, b_Mo_reckon_50, b_Mo_reckon_55, b_Mo_reckon_63, b_Mo_reckon_67, b_Mo_reckon_68 hg, b_Mo_reckon_78, b_Mo_reckon_82, b_Mo_reckon_86, b_Mo_reckon_87, b_Mo_reckon_94, b_Mo_reckon_98, b_Mo_reckon_99, b_Mo_reckon_100, b_Mo_reckon_107, b_Mo_reckon_111, b_Mo_reckon_112, b_Mo_reckon_113, b_Mo_reckon_120, b_Mo_reckon_124, b_Mo_reckon_125, neq, exI, exJ, exV, eq_self, true_and, and_true, true_or, or_true, if_true, if_false, not_true, not_false_eq_true, false_and, and_false, decide_true, decide_false, bi_T, bi_F, bi_0, bi_1, bi_z, bft, n10, n01, Nat.reduceEqDiff, Nat.reduceLT, Nat.reduceAdd, Nat.reduceMul, reduceCtorEq, lI_add]
  · simp (disch := omega) only [b_Mo_reckon_40, b_Mo_reckon_45, b_Mo_reckon_50, b_Mo_reckon_55, b_Mo_reckon_63, b_Mo_reckon_67, b_Mo_reckon_68 hg, b_Mo_reckon_78, b_Mo_reckon_82, b_Mo_reckon_86, b_Mo_reckon_87, b_Mo_reckon_94, b_Mo_reckon_98, b_Mo_reckon_99, b_Mo_reckon_100, b_Mo_reckon_107, b_Mo_reckon_111, b_Mo_reckon_112, b_Mo_reckon_113, b_Mo_reckon_120, b_Mo_reckon_124, b_Mo_reckon_125, neq, exI, exJ, exV, eq_self, true_and, and_true, true_or, or_true, if_true, if_false, not_true, not_false_eq_true, false_and, and_false, decide_true, decide_false, bi_T, bi_F, bi_0, bi_1, bi_z, bft, n10, n01, Nat.reduceEqDiff, Nat.reduceLT, Nat.reduceAdd, Nat.reduceMul, reduceCtorEq, lI_sub]
  · simp (disch := omega) only [b_Mo_reckon_40, b_Mo_reckon_45, b_Mo_reckon_50, b_Mo_reckon_55, b_Mo_reckon_63, b_Mo_reckon_67, b_Mo_reckon_68 hg, b_Mo_reckon_78, b_Mo_reckon_82, b_Mo_reckon_86, b_Mo_reckon_87, b_Mo_reckon_94, b_Mo_reckon_98, b_Mo_reckon_99, b_Mo_reckon_100, b_Mo_reckon_107, b_Mo_reckon_111, b_Mo_reckon_112, b_Mo_reckon_113, b_Mo_reckon_120, b_Mo_reckon_124, b_Mo_reckon_125, neq, exI, exJ, exV, eq_self, true_and, and_true, true_or, or_true, if_true, if_false, not_true, not_false_eq_true, false_and, and_false, decide_true, decide_false, bi_T, bi_F, bi_0, bi_1, bi_z, bft, n10, n01, Nat.reduceEqDiff, Nat.reduceLT, Nat.reduceAdd, Nat.reduceMul, reduceCtorEq, lI_mul]
  · by_cases q : y = 0
    · simp (disch := omega) only [b_Mo_reckon_40, b_Mo_reckon_45, b_Mo_reckon_50, b_Mo_reckon_55, b_Mo_reckon_63, b_Mo_reckon_67, b_Mo_reckon_68 hg, b_Mo_reckon_78, b_Mo_reckon_82, b_Mo_reckon_86, b_Mo_reckon_87, b_Mo_reckon_94, b_Mo_reckon_98, b_Mo_reckon_99, b_Mo_reckon_100, b_Mo_reckon_107, b_Mo_reckon_111, b_Mo_reckon_112, b_Mo_reckon_113, b_Mo_reckon_120, b_Mo_reckon_124, b_Mo_reckon_125, neq, exI, exJ, exV, eq_self, true_and, and_true, true_or, or_true, if_true, if_false, not_true, not_false_eq_true, false_and, and_false, decide_true, decide_false, bi_T, bi_F, bi_0, bi_1, bi_z, bft, n10, n01, Nat.reduceEqDiff, Nat.reduceLT, Nat.reduceAdd, Nat.reduceMul, reduceCtorEq, z0, lI_eq, q, u2_s]
    · simp (disch := omega) only [b_Mo_reckon_40, b_Mo_reckon_45, b_Mo_reckon_50, b_Mo_reckon_55, b_Mo_reckon_63, b_Mo_reckon_67, b_Mo_reckon_68 hg, b_Mo_reckon_78, b_Mo_reckon_82, b_Mo_reckon_86, b_Mo_reckon_87, b_Mo_reckon_94, b_Mo_reckon_98, b_Mo_reckon_99, b_Mo_reckon_100, b_Mo_reckon_107, b_Mo_reckon_111, b_Mo_reckon_112, b_Mo_reckon_113, b_Mo_reckon_120, b_Mo_reckon_124, b_Mo_reckon_125, neq, exI, exJ, exV, eq_self, true_and, and_true, true_or, or_true, if_true, if_false, not_true, not_false_eq_true, false_and, and_false, decide_true, decide_false, bi_T, bi_F, bi_0, bi_1, bi_z, bft, n10, n01, Nat.reduceEqDiff, Nat.reduceLT, Nat.reduceAdd, Nat.reduceMul, reduceCtorEq, z0, lI_eq, q, lI_div, u2_s, u2_self hI]
  · by_cases q : x < y <;> simp (disch := omega) only [b_Mo_reckon_40, b_Mo_reckon_45, b_Mo_reckon_50, b_Mo_reckon_55, b_Mo_reckon_63, b_Mo_reckon_67, b_Mo_reckon_68 hg, b_Mo_reckon_78, b_Mo_reckon_82, b_Mo_reckon_86, b_Mo_reckon_87, b_Mo_reckon_94, b_Mo_reckon_98, b_Mo_reckon_99, b_Mo_reckon_100, b_Mo_reckon_107, b_Mo_reckon_111, b_Mo_reckon_112, b_Mo_reckon_113, b_Mo_reckon_120, b_Mo_reckon_124, b_Mo_reckon_125, neq, exI, exJ, exV, eq_self, true_and, and_true, true_or, or_true, if_true, if_false, not_true, not_false_eq_true, false_and, and_false, decide_true, decide_false, bi_T, bi_F, bi_0, bi_1, bi_z, bft, n10, n01, Nat.reduceEqDiff, Nat.reduceLT, Nat.reduceAdd, Nat.reduceMul, reduceCtorEq, z0, z1, lI_lt, q]
  · by_cases q : y < x <;> simp (disch := omega) only [b_Mo_reckon_40, b_Mo_reckon_45, b_Mo_reckon_50, b_Mo_reckon_55, b_Mo_reckon_63, b_Mo_reckon_67, b_Mo_reckon_68 hg, b_Mo_reckon_78, b_Mo_reckon_82, b_Mo_reckon_86, b_Mo_reckon_87, b_Mo_reckon_94, b_Mo_reckon_98, b_Mo_reckon_99, b_Mo_reckon_100, b_Mo_reckon_107, b_Mo_reckon_111, b_Mo_reckon_112, b_Mo_reckon_113, b_Mo_reckon_120, b_Mo_reckon_124, b_Mo_reckon_125, neq, exI, exJ, exV, eq_self, true_and, and_true, true_or, or_true, if_true, if_false, not_true, not_false_eq_true, false_and, and_false, decide_true, decide_false, bi_T, bi_F, bi_0, bi_1, bi_z, bft, n10, n01, Nat.reduceEqDiff, Nat.reduceLT, Nat.reduceAdd, Nat.reduceMul, reduceCtorEq, z0, z1, lI_lt, q]
  · by_cases q : x = y <;> simp (disch := omega) only [b_Mo_reckon_40, b_Mo_reckon_45, b_Mo_reckon_50, b_Mo_reckon_55, b_Mo_reckon_63, b_Mo_reckon_67, b_Mo_reckon_68 hg, b_Mo_reckon_78, b_Mo_reckon_82, b_Mo_reckon_86, b_Mo_reckon_87, b_Mo_reckon_94, b_Mo_reckon_98, b_Mo_reckon_99, b_Mo_reckon_100, b_Mo_reckon_107, b_Mo_reckon_111, b_Mo_reckon_112, b_Mo_reckon_113, b_Mo_reckon_120, b_Mo_reckon_124, b_Mo_reckon_125, neq, exI, exJ, exV, eq_self, true_and, and_true, true_or, or_true, if_true, if_false, not_true, not_false_eq_true, false_and, and_false, decide_true, decide_false, bi_T, bi_F, bi_0, bi_1, bi_z, bft, n10, n01, Nat.reduceEqDiff, Nat.reduceLT, Nat.reduceAdd, Nat.reduceMul, reduceCtorEq, z0, z1, lI_eq, q]
def vR (d : Nat) (g : aG) (I : Nat → Nat → Int32) (Q : aQ) (to pc t : Nat) (J : Nat → Nat → Int64) : Prop := ∀ v1 v5 v6, a_wp aTab aMX (d + 1) m_Mo_reckonAll 10 [.ref 89, v1, .int (nI to), .int (nI t), .int (nI pc), v5, v6] [] (g, I, J) Q
def RR (d : Nat) (g : aG) (I : Nat → Nat → Int32) (E : Nat → Int) (J0 : Nat → Int64) (a b m : Nat) (v : aV) : Prop := ∀ (Q : aQ) (to t : Nat) (J : Nat → Nat → Int64), J 102 = J0 → b ≤ to → to ≤ 400 → t + m ≤ 400 →
  (v E = none → ∀ J' z, Xr 103 J J' → Q none (g, u2 I 89 31 (nI 1), u2 J' 89 32 z)) →
  (∀ x, v E = some x → ∀ J', Xr 103 J J' → (∀ i, i < t → J' 103 i = J 103 i) → J' 103 t = lI x → vR d g I Q to b (t + 1) J') → vR d g I Q to a t J
theorem r_brk (hg : Geo g) {Q : aQ} {J : Nat → Nat → Int64} {to pc t : Nat} (hpc : pc < 1000) (ht : t < 1000) (hto : to < 1000) (hQ : ∀ z, Q none (g, u2 I 89 31 (nI 1), u2 J 89 32 z)) (v1 v5 v6 : Value) : a_wp aTab aMX (d + 1) m_Mo_reckonAll 10 [.ref 89, v1, .int (nI to), .int (nI t), .int (nI pc), v5, v6] [] (g, u2 I 89 31 (nI 1), J) Q := by
  rw [b_Mo_reckonAll_10]
  by_cases q : pc < to <;> by_cases q2 : 0 < t <;> simp (disch := omega) only [b_Mo_reckonAll_16 hg, b_Mo_reckonAll_237, b_Mo_reckonAll_242 hg, b_Mo_reckonAll_251, b_Mo_reckonAll_252 hg, ↓reduceIte, nlt, neq, u2_s, q, q2, exI, exJ, exV, eq_self, true_and, and_true, true_or, or_true, if_true, if_false, not_true, not_false_eq_true, false_and, and_false, decide_true, decide_false, bi_T, bi_F, bi_0, bi_1, bi_z, bft, n10, n01, Nat.reduceEqDiff, Nat.reduceLT, Nat.reduceAdd, Nat.reduceMul, reduceCtorEq, hQ]
theorem RR_all (hg : Geo g) (hI : I 89 31 = nI 0) (hE : EB E) {J0 : Nat → Int64} (hW : ∀ w, w < 8 → J0 (w + 1) = lI (E w)) {cC : Nat → Int32} {k a b a' b' m : Nat} {v : aV} (h : Der cC (fun i => I 91 (564 + i)) k a b a' b' m v) : RR d g I E J0 a b m v := by
  have h := h (fun k a b a' b' m v => (VB k v ∧ a < b ∧ 1 ≤ m) ∧ RR d g I E J0 a b m v) ⟨?_, ?_, ?_, ?_, ?_, ?_⟩
  · exact h.2
  · intro a a' n hn hc1 hc2 _
    refine ⟨⟨fun E hE x hx => ?_, by omega, by omega⟩, ?_⟩
    · cases hx
      exact ⟨by omega, fun z => by omega⟩
    intro Q to t J hJ h1 h2 h3 _ h6 v1 v5 v6
    rw [b_Mo_reckonAll_10]
    have q2 : a < to := by omega
    have hc1 : I 91 (564 + 2 * a) = nI 0 := hc1
    have hc2 : I 91 (564 + 2 * a + 1) = nI n := hc2
    simp (disch := omega) only [b_Mo_reckonAll_0 hg, b_Mo_reckonAll_16 hg, b_Mo_reckonAll_23 hg, b_Mo_reckonAll_65 hg, b_Mo_reckonAll_75, b_Mo_reckonAll_81 hg, b_Mo_reckonAll_88 hg, b_Mo_reckonAll_95, b_Mo_reckonAll_102 hg, b_Mo_reckonAll_132 hg, b_Mo_reckonAll_141 hg, b_Mo_reckonAll_158, b_Mo_reckonAll_161, b_Mo_reckonAll_165, b_Mo_reckonAll_166 hg, b_Mo_reckonAll_172, b_Mo_reckonAll_179 hg, b_Mo_reckonAll_200 hg, b_Mo_reckonAll_215, b_Mo_reckonAll_219, b_Mo_reckonAll_220, b_Mo_reckonAll_224, b_Mo_reckonAll_231, b_Mo_reckonAll_234, b_Mo_reckonAll_237, b_Mo_reckonAll_242 hg, b_Mo_reckonAll_251, b_Mo_reckonAll_252 hg, ↓reduceIte, neq, nlt, nvi, ncl, nadd, nmul, nI_l, exI, exJ, exV, eq_self, true_and, and_true, true_or, or_true, if_true, if_false, not_true, not_false_eq_true, false_and, and_false, decide_true, decide_false, bi_T, bi_F, bi_0, bi_1, bi_z, bft, n10, n01, Nat.reduceEqDiff, Nat.reduceLT, Nat.reduceAdd, Nat.reduceMul, reduceCtorEq, hc1, hc2, hI, q2]
    refine h6 n rfl _ (Xr_u Xr_rf) (fun i hi => u2_k (by omega)) ?_ _ _ _
    rw [u2_s, lI_n]
  · intro a a' w hw hc1 _
    refine ⟨⟨fun E hE x hx => ?_, by omega, by omega⟩, ?_⟩
    · cases hx
      exact ⟨hE w, fun z => by omega⟩
    intro Q to t J hJ h1 h2 h3 _ h6 v1 v5 v6
    rw [b_Mo_reckonAll_10]
    have q2 : a < to := by omega
    have q3 : w + 1 < 20 := by omega
    have q4 : ¬ w + 1 = 0 := by omega
    have hc1 : I 91 (564 + 2 * a) = nI (w + 1) := hc1
    simp (disch := omega) only [b_Mo_reckonAll_0 hg, b_Mo_reckonAll_16 hg, b_Mo_reckonAll_23 hg, b_Mo_reckonAll_65 hg, b_Mo_reckonAll_75, b_Mo_reckonAll_81 hg, b_Mo_reckonAll_88 hg, b_Mo_reckonAll_95, b_Mo_reckonAll_102 hg, b_Mo_reckonAll_132 hg, b_Mo_reckonAll_141 hg, b_Mo_reckonAll_158, b_Mo_reckonAll_161, b_Mo_reckonAll_165, b_Mo_reckonAll_166 hg, b_Mo_reckonAll_172, b_Mo_reckonAll_179 hg, b_Mo_reckonAll_200 hg, b_Mo_reckonAll_215, b_Mo_reckonAll_219, b_Mo_reckonAll_220, b_Mo_reckonAll_224, b_Mo_reckonAll_231, b_Mo_reckonAll_234, b_Mo_reckonAll_237, b_Mo_reckonAll_242 hg, b_Mo_reckonAll_251, b_Mo_reckonAll_252 hg, ↓reduceIte, neq, nlt, nvi, ncl, nadd, nmul, nI_l, exI, exJ, exV, eq_self, true_and, and_true, true_or, or_true, if_true, if_false, not_true, not_false_eq_true, false_and, and_false, decide_true, decide_false, bi_T, bi_F, bi_0, bi_1, bi_z, bft, n10, n01, Nat.reduceEqDiff, Nat.reduceLT, Nat.reduceAdd, Nat.reduceMul, reduceCtorEq, hc1, hI, q2, q3, q4]
    refine h6 _ rfl _ (Xr_u Xr_rf) (fun i hi => u2_k (by omega)) ?_ _ _ _
    rw [u2_s, hJ, hW w hw]
  · intro o k a c b a' c' b' m m2 v w ho ho2 hk h1 h2 hc _
    refine ⟨⟨VB_2 ho ho2 hk, by omega, by omega⟩, ?_⟩
    intro Q to t J hJ g1 g2 g3 g5 g6
    refine h1.2 Q to t J hJ (by omega) g2 (by omega) (fun e => g5 (by unfold v2; rw [e])) ?_
    intro x hx J1 f1 f2 f3
    refine h2.2 Q to (t + 1) J1 ((f1 102 (by decide)).trans hJ) (by omega) g2 (by omega) (fun e J' z hz => g5 (by unfold v2; rw [hx, e]) J' z (Xr_tr f1 hz)) ?_
    intro y hy J2 r1 r2 r3 v1 v5 v6
    have bx := (h1.1.1 E hE x hx).1
    have bY := (h2.1.1 E hE y hy).1
    have ex : J2 103 t = lI x := (r2 t (by omega)).trans f3
    have hj := jr_bd (o := o) bx.1 bx.2 bY.1 bY.2
    rw [b_Mo_reckonAll_10]
    have q2 : b < to := by omega
    have q3 : ¬ o + 18 < 20 := by omega
    have q4 : o + 18 < 27 := by omega
    have z3 : lN 1000000000 = lI 1000000000 := (lI_n _).symm
    have z4 : (-1000000000 : Int64) = lI (-1000000000) := by decide
    have hc : I 91 (564 + 2 * b) = nI (o + 18) := hc
    simp (disch := omega) only [b_Mo_reckonAll_16 hg, b_Mo_reckonAll_23 hg, b_Mo_reckonAll_95, b_Mo_reckonAll_102 hg, ↓reduceIte, neq, nlt, nvi, ncl, nadd, nmul, nsub, nm1, nI_l, exI, exJ, exV, eq_self, true_and, and_true, true_or, or_true, if_true, if_false, not_true, not_false_eq_true, false_and, and_false, decide_true, decide_false, bi_T, bi_F, bi_0, bi_1, bi_z, bft, n10, n01, Nat.reduceEqDiff, Nat.reduceLT, Nat.reduceAdd, Nat.reduceMul, reduceCtorEq, hc, hI, q2, q3, q4, Nat.add_sub_cancel, ex, r3, c_reckon hg hI]
    by_cases p0 : o = 5 ∧ y = 0
    · rw [if_pos p0]
      simp (disch := omega) only [b_Mo_reckonAll_132 hg, b_Mo_reckonAll_161, b_Mo_reckonAll_166 hg, b_Mo_reckonAll_234, ↓reduceIte, neq, nlt, nvi, ncl, u2_s, exI, exJ, exV, eq_self, true_and, and_true, true_or, or_true, if_true, if_false, not_true, not_false_eq_true, false_and, and_false, decide_true, decide_false, bi_T, bi_F, bi_0, bi_1, bi_z, bft, n10, n01, Nat.reduceEqDiff, Nat.reduceLT, Nat.reduceAdd, Nat.reduceMul, reduceCtorEq]
      have e2 : u2 (u2 I 89 31 (nI 1)) 89 31 (nI 1) = u2 I 89 31 (nI 1) := u2_self u2_s
      rw [e2]
      refine r_brk hg (by omega) (by omega) (by omega) (fun z => ?_) _ _ _
      refine g5 ?_ _ z (Xr_u (Xr_tr f1 r1))
      unfold v2
      rw [hx, hy]
      show bd (jr o x y) = none
      refine if_neg ?_
      rw [p0.1, p0.2]
      show ¬ (_ ∧ (4611686018427387904 : Int) ≤ 1000000000)
      omega
    rw [if_neg p0]
    simp (disch := omega) only [b_Mo_reckonAll_132 hg, b_Mo_reckonAll_141 hg, b_Mo_reckonAll_158, ↓reduceIte, neq, nlt, nvi, ncl, nsub, u2_s, exI, exJ, exV, eq_self, true_and, and_true, true_or, or_true, if_true, if_false, not_true, not_false_eq_true, false_and, and_false, decide_true, decide_false, bi_T, bi_F, bi_0, bi_1, bi_z, bft, n10, n01, Nat.reduceEqDiff, Nat.reduceLT, Nat.reduceAdd, Nat.reduceMul, reduceCtorEq, hI, Nat.add_sub_cancel, c_in, z3, z4, lI_lt]
    by_cases p1 : jr o x y < -1000000000
    · simp (disch := omega) only [p1, b_Mo_reckonAll_161, b_Mo_reckonAll_166 hg, b_Mo_reckonAll_234, exI, exJ, exV, eq_self, true_and, and_true, true_or, or_true, if_true, if_false, not_true, not_false_eq_true, false_and, and_false, decide_true, decide_false, bi_T, bi_F, bi_0, bi_1, bi_z, bft, n10, n01, Nat.reduceEqDiff, Nat.reduceLT, Nat.reduceAdd, Nat.reduceMul, reduceCtorEq]
      refine r_brk hg (by omega) (by omega) (by omega) (fun z => ?_) _ _ _
      refine g5 ?_ _ z (Xr_u (Xr_tr f1 r1))
      unfold v2
      rw [hx, hy]
      show bd (jr o x y) = none
      exact if_neg (by omega)
    by_cases p2 : 1000000000 < jr o x y
    · simp (disch := omega) only [p1, p2, b_Mo_reckonAll_161, b_Mo_reckonAll_166 hg, b_Mo_reckonAll_234, exI, exJ, exV, eq_self, true_and, and_true, true_or, or_true, if_true, if_false, not_true, not_false_eq_true, false_and, and_false, decide_true, decide_false, bi_T, bi_F, bi_0, bi_1, bi_z, bft, n10, n01, Nat.reduceEqDiff, Nat.reduceLT, Nat.reduceAdd, Nat.reduceMul, reduceCtorEq]
      refine r_brk hg (by omega) (by omega) (by omega) (fun z => ?_) _ _ _
      refine g5 ?_ _ z (Xr_u (Xr_tr f1 r1))
      unfold v2
      rw [hx, hy]
      show bd (jr o x y) = none
      exact if_neg (by omega)
    simp (disch := omega) only [p1, p2, b_Mo_reckonAll_165, b_Mo_reckonAll_166 hg, b_Mo_reckonAll_234, exI, exJ, exV, eq_self, true_and, and_true, true_or, or_true, if_true, if_false, not_true, not_false_eq_true, false_and, and_false, decide_true, decide_false, bi_T, bi_F, bi_0, bi_1, bi_z, bft, n10, n01, Nat.reduceEqDiff, Nat.reduceLT, Nat.reduceAdd, Nat.reduceMul, reduceCtorEq, u2_self hI]
    refine g6 (jr o x y) ?_ _ (Xr_u (Xr_tr f1 r1)) (fun i hi => (u2_k (by omega)).trans ((r2 i (by omega)).trans (f2 i hi))) u2_s _ _ _
    unfold v2
    rw [hx, hy]
    show bd (jr o x y) = _
    exact if_pos (by omega)
  · intro a b a' b' m v h1 hc _
    refine ⟨⟨VB_n h1.1.1, by omega, h1.1.2.2⟩, ?_⟩
    intro Q to t J hJ g1 g2 g3 g5 g6
    refine h1.2 Q to t J hJ (by omega) g2 (by omega) (fun e => g5 (by unfold vn; rw [e])) ?_
    intro x hx J1 f1 f2 f3 v1 v5 v6
    have bx := (h1.1.1 E hE x hx).1
    rw [b_Mo_reckonAll_10]
    have q2 : b < to := by omega
    have z1 : lN 1 = lI 1 := (lI_n 1).symm
    have hc : I 91 (564 + 2 * b) = nI 27 := hc
    simp (disch := omega) only [b_Mo_reckonAll_0 hg, b_Mo_reckonAll_16 hg, b_Mo_reckonAll_23 hg, b_Mo_reckonAll_65 hg, b_Mo_reckonAll_75, b_Mo_reckonAll_81 hg, b_Mo_reckonAll_88 hg, b_Mo_reckonAll_95, b_Mo_reckonAll_102 hg, b_Mo_reckonAll_132 hg, b_Mo_reckonAll_141 hg, b_Mo_reckonAll_158, b_Mo_reckonAll_161, b_Mo_reckonAll_165, b_Mo_reckonAll_166 hg, b_Mo_reckonAll_172, b_Mo_reckonAll_179 hg, b_Mo_reckonAll_200 hg, b_Mo_reckonAll_215, b_Mo_reckonAll_219, b_Mo_reckonAll_220, b_Mo_reckonAll_224, b_Mo_reckonAll_231, b_Mo_reckonAll_234, b_Mo_reckonAll_237, b_Mo_reckonAll_242 hg, b_Mo_reckonAll_251, b_Mo_reckonAll_252 hg, ↓reduceIte, neq, nlt, nvi, ncl, nadd, nmul, nsub, exI, exJ, exV, eq_self, true_and, and_true, true_or, or_true, if_true, if_false, not_true, not_false_eq_true, false_and, and_false, decide_true, decide_false, bi_T, bi_F, bi_0, bi_1, bi_z, bft, n10, n01, Nat.reduceEqDiff, Nat.reduceLT, Nat.reduceAdd, Nat.reduceMul, reduceCtorEq, hc, hI, q2, Nat.add_sub_cancel, f3, z1, lI_sub]
    exact g6 (1 - x) (by unfold vn; rw [hx]) _ (Xr_u f1) (fun i hi => (u2_k (by omega)).trans (f2 i hi)) u2_s _ _ _
  · intro a b a' b' m v h1 hc hc2
    refine ⟨⟨h1.1.1, by omega, h1.1.2.2⟩, ?_⟩
    intro Q to t J hJ g1 g2 g3 g5 g6
    refine h1.2 Q to t J hJ (by omega) g2 (by omega) g5 ?_
    intro x hx J1 f1 f2 f3 v1 v5 v6
    have bx2 := (h1.1.1 E hE x hx).2 rfl
    have bx := (h1.1.1 E hE x hx).1
    rw [b_Mo_reckonAll_10]
    have q2 : b < to := by omega
    have q3 : b + 1 < to := by omega
    have z1 : lN 1 = lI 1 := (lI_n 1).symm
    have hc : I 91 (564 + 2 * b) = nI 27 := hc
    have hc2 : I 91 (564 + 2 * (b + 1)) = nI 27 := hc2
    simp (disch := omega) only [b_Mo_reckonAll_0 hg, b_Mo_reckonAll_16 hg, b_Mo_reckonAll_23 hg, b_Mo_reckonAll_65 hg, b_Mo_reckonAll_75, b_Mo_reckonAll_81 hg, b_Mo_reckonAll_88 hg, b_Mo_reckonAll_95, b_Mo_reckonAll_102 hg, b_Mo_reckonAll_132 hg, b_Mo_reckonAll_141 hg, b_Mo_reckonAll_158, b_Mo_reckonAll_161, b_Mo_reckonAll_165, b_Mo_reckonAll_166 hg, b_Mo_reckonAll_172, b_Mo_reckonAll_179 hg, b_Mo_reckonAll_200 hg, b_Mo_reckonAll_215, b_Mo_reckonAll_219, b_Mo_reckonAll_220, b_Mo_reckonAll_224, b_Mo_reckonAll_231, b_Mo_reckonAll_234, b_Mo_reckonAll_237, b_Mo_reckonAll_242 hg, b_Mo_reckonAll_251, b_Mo_reckonAll_252 hg, ↓reduceIte, neq, nlt, nvi, ncl, nadd, nmul, nsub, exI, exJ, exV, eq_self, true_and, and_true, true_or, or_true, if_true, if_false, not_true, not_false_eq_true, false_and, and_false, decide_true, decide_false, bi_T, bi_F, bi_0, bi_1, bi_z, bft, n10, n01, Nat.reduceEqDiff, Nat.reduceLT, Nat.reduceAdd, Nat.reduceMul, reduceCtorEq, hc, hI, q2, Nat.add_sub_cancel, f3, z1, lI_sub]
    rw [b_Mo_reckonAll_10]
    simp (disch := omega) only [b_Mo_reckonAll_0 hg, b_Mo_reckonAll_16 hg, b_Mo_reckonAll_23 hg, b_Mo_reckonAll_65 hg, b_Mo_reckonAll_75, b_Mo_reckonAll_81 hg, b_Mo_reckonAll_88 hg, b_Mo_reckonAll_95, b_Mo_reckonAll_102 hg, b_Mo_reckonAll_132 hg, b_Mo_reckonAll_141 hg, b_Mo_reckonAll_158, b_Mo_reckonAll_161, b_Mo_reckonAll_165, b_Mo_reckonAll_166 hg, b_Mo_reckonAll_172, b_Mo_reckonAll_179 hg, b_Mo_reckonAll_200 hg, b_Mo_reckonAll_215, b_Mo_reckonAll_219, b_Mo_reckonAll_220, b_Mo_reckonAll_224, b_Mo_reckonAll_231, b_Mo_reckonAll_234, b_Mo_reckonAll_237, b_Mo_reckonAll_242 hg, b_Mo_reckonAll_251, b_Mo_reckonAll_252 hg, ↓reduceIte, neq, nlt, nvi, ncl, nadd, nmul, nsub, exI, exJ, exV, eq_self, true_and, and_true, true_or, or_true, if_true, if_false, not_true, not_false_eq_true, false_and, and_false, decide_true, decide_false, bi_T, bi_F, bi_0, bi_1, bi_z, bft, n10, n01, Nat.reduceEqDiff, Nat.reduceLT, Nat.reduceAdd, Nat.reduceMul, reduceCtorEq, hc2, hI, q3, Nat.add_sub_cancel, u2_s, z1, lI_sub]
    refine g6 x hx _ (Xr_u (Xr_u f1)) (fun i hi => (u2_k (by omega)).trans ((u2_k (by omega)).trans (f2 i hi))) ?_ _ _ _
    rw [u2_s, show (1 : Int) - (1 - x) = x by omega]
  · intro o a c b a' c' b' m m2 v w ho h1 h2 hc1 hc2 _
    refine ⟨⟨VB_a h1.1.1 h2.1.1, by omega, by omega⟩, ?_⟩
    intro Q to t J hJ g1 g2 g3 g5 g6
    refine h1.2 Q to t J hJ (by omega) g2 (by omega) (fun e => g5 (by unfold va; rw [e])) ?_
    intro x hx J1 f1 f2 f3 v1 v5 v6
    have bx := (h1.1.1 E hE x hx)
    have bx2 := bx.2 rfl
    rw [b_Mo_reckonAll_10]
    have q2 : c < to := by omega
    have z0 : lN 0 = lI 0 := (lI_n 0).symm
    have z1 : lN 1 = lI 1 := (lI_n 1).symm
    have ev : va o v w E = if decide (x = 1) = decide (o = 10) then some x else w E := by unfold va; rw [hx]
    have e1 : ((1 : Int) = 1) = True := eq_true rfl
    have e0 : ((0 : Int) = 1) = False := eq_false (by decide)
    have e10 : ((1 : Int) = 0) = False := eq_false (by decide)
    have hc2 : I 91 (564 + 2 * c + 1) = nI b := hc2
    have hJ1 : J1 102 = J0 := (f1 102 (by decide)).trans hJ
    rcases ho with rfl | rfl <;> rcases bx2 with rfl | rfl
    · have hc1 : I 91 (564 + 2 * c) = nI 29 := hc1
      simp (disch := omega) only [b_Mo_reckonAll_0 hg, b_Mo_reckonAll_16 hg, b_Mo_reckonAll_23 hg, b_Mo_reckonAll_65 hg, b_Mo_reckonAll_75, b_Mo_reckonAll_81 hg, b_Mo_reckonAll_88 hg, b_Mo_reckonAll_95, b_Mo_reckonAll_102 hg, b_Mo_reckonAll_132 hg, b_Mo_reckonAll_141 hg, b_Mo_reckonAll_158, b_Mo_reckonAll_161, b_Mo_reckonAll_165, b_Mo_reckonAll_166 hg, b_Mo_reckonAll_172, b_Mo_reckonAll_179 hg, b_Mo_reckonAll_200 hg, b_Mo_reckonAll_215, b_Mo_reckonAll_219, b_Mo_reckonAll_220, b_Mo_reckonAll_224, b_Mo_reckonAll_231, b_Mo_reckonAll_234, b_Mo_reckonAll_237, b_Mo_reckonAll_242 hg, b_Mo_reckonAll_251, b_Mo_reckonAll_252 hg, ↓reduceIte, neq, nlt, nvi, ncl, nadd, nmul, nsub, nm1, exI, exJ, exV, eq_self, true_and, and_true, true_or, or_true, if_true, if_false, not_true, not_false_eq_true, false_and, and_false, decide_true, decide_false, bi_T, bi_F, bi_0, bi_1, bi_z, bft, n10, n01, Nat.reduceEqDiff, Nat.reduceLT, Nat.reduceAdd, Nat.reduceMul, reduceCtorEq, hc1, hc2, hI, q2, Nat.add_sub_cancel, f3, z0, z1, lI_eq, e0]
      rw [if_neg (by decide)] at ev
      refine h2.2 Q to t J1 hJ1 g1 g2 (by omega) (fun e J' z hz => g5 (ev.trans e) J' z (Xr_tr f1 hz)) ?_ _ _ _
      intro y hy J2 r1 r2 r3
      exact g6 y (ev.trans hy) J2 (Xr_tr f1 r1) (fun i hi => (r2 i hi).trans (f2 i hi)) r3
    · have hc1 : I 91 (564 + 2 * c) = nI 29 := hc1
      simp (disch := omega) only [b_Mo_reckonAll_0 hg, b_Mo_reckonAll_16 hg, b_Mo_reckonAll_23 hg, b_Mo_reckonAll_65 hg, b_Mo_reckonAll_75, b_Mo_reckonAll_81 hg, b_Mo_reckonAll_88 hg, b_Mo_reckonAll_95, b_Mo_reckonAll_102 hg, b_Mo_reckonAll_132 hg, b_Mo_reckonAll_141 hg, b_Mo_reckonAll_158, b_Mo_reckonAll_161, b_Mo_reckonAll_165, b_Mo_reckonAll_166 hg, b_Mo_reckonAll_172, b_Mo_reckonAll_179 hg, b_Mo_reckonAll_200 hg, b_Mo_reckonAll_215, b_Mo_reckonAll_219, b_Mo_reckonAll_220, b_Mo_reckonAll_224, b_Mo_reckonAll_231, b_Mo_reckonAll_234, b_Mo_reckonAll_237, b_Mo_reckonAll_242 hg, b_Mo_reckonAll_251, b_Mo_reckonAll_252 hg, ↓reduceIte, neq, nlt, nvi, ncl, nadd, nmul, nsub, nm1, exI, exJ, exV, eq_self, true_and, and_true, true_or, or_true, if_true, if_false, not_true, not_false_eq_true, false_and, and_false, decide_true, decide_false, bi_T, bi_F, bi_0, bi_1, bi_z, bft, n10, n01, Nat.reduceEqDiff, Nat.reduceLT, Nat.reduceAdd, Nat.reduceMul, reduceCtorEq, hc1, hc2, hI, q2, Nat.add_sub_cancel, f3, z0, z1, lI_eq, e1]
      rw [if_pos (by decide)] at ev
      exact g6 1 ev J1 f1 f2 f3 _ _ _
    · have hc1 : I 91 (564 + 2 * c) = nI 28 := hc1
      simp (disch := omega) only [b_Mo_reckonAll_0 hg, b_Mo_reckonAll_16 hg, b_Mo_reckonAll_23 hg, b_Mo_reckonAll_65 hg, b_Mo_reckonAll_75, b_Mo_reckonAll_81 hg, b_Mo_reckonAll_88 hg, b_Mo_reckonAll_95, b_Mo_reckonAll_102 hg, b_Mo_reckonAll_132 hg, b_Mo_reckonAll_141 hg, b_Mo_reckonAll_158, b_Mo_reckonAll_161, b_Mo_reckonAll_165, b_Mo_reckonAll_166 hg, b_Mo_reckonAll_172, b_Mo_reckonAll_179 hg, b_Mo_reckonAll_200 hg, b_Mo_reckonAll_215, b_Mo_reckonAll_219, b_Mo_reckonAll_220, b_Mo_reckonAll_224, b_Mo_reckonAll_231, b_Mo_reckonAll_234, b_Mo_reckonAll_237, b_Mo_reckonAll_242 hg, b_Mo_reckonAll_251, b_Mo_reckonAll_252 hg, ↓reduceIte, neq, nlt, nvi, ncl, nadd, nmul, nsub, nm1, exI, exJ, exV, eq_self, true_and, and_true, true_or, or_true, if_true, if_false, not_true, not_false_eq_true, false_and, and_false, decide_true, decide_false, bi_T, bi_F, bi_0, bi_1, bi_z, bft, n10, n01, Nat.reduceEqDiff, Nat.reduceLT, Nat.reduceAdd, Nat.reduceMul, reduceCtorEq, hc1, hc2, hI, q2, Nat.add_sub_cancel, f3, z0, z1, lI_eq]
      rw [if_pos (by decide)] at ev
      exact g6 0 ev J1 f1 f2 f3 _ _ _
    · have hc1 : I 91 (564 + 2 * c) = nI 28 := hc1
      simp (disch := omega) only [b_Mo_reckonAll_0 hg, b_Mo_reckonAll_16 hg, b_Mo_reckonAll_23 hg, b_Mo_reckonAll_65 hg, b_Mo_reckonAll_75, b_Mo_reckonAll_81 hg, b_Mo_reckonAll_88 hg, b_Mo_reckonAll_95, b_Mo_reckonAll_102 hg, b_Mo_reckonAll_132 hg, b_Mo_reckonAll_141 hg, b_Mo_reckonAll_158, b_Mo_reckonAll_161, b_Mo_reckonAll_165, b_Mo_reckonAll_166 hg, b_Mo_reckonAll_172, b_Mo_reckonAll_179 hg, b_Mo_reckonAll_200 hg, b_Mo_reckonAll_215, b_Mo_reckonAll_219, b_Mo_reckonAll_220, b_Mo_reckonAll_224, b_Mo_reckonAll_231, b_Mo_reckonAll_234, b_Mo_reckonAll_237, b_Mo_reckonAll_242 hg, b_Mo_reckonAll_251, b_Mo_reckonAll_252 hg, ↓reduceIte, neq, nlt, nvi, ncl, nadd, nmul, nsub, nm1, exI, exJ, exV, eq_self, true_and, and_true, true_or, or_true, if_true, if_false, not_true, not_false_eq_true, false_and, and_false, decide_true, decide_false, bi_T, bi_F, bi_0, bi_1, bi_z, bft, n10, n01, Nat.reduceEqDiff, Nat.reduceLT, Nat.reduceAdd, Nat.reduceMul, reduceCtorEq, hc1, hc2, hI, q2, Nat.add_sub_cancel, f3, z0, z1, lI_eq, e10]
      rw [if_neg (by decide)] at ev
      refine h2.2 Q to t J1 hJ1 g1 g2 (by omega) (fun e J' z hz => g5 (ev.trans e) J' z (Xr_tr f1 hz)) ?_ _ _ _
      intro y hy J2 r1 r2 r3
      exact g6 y (ev.trans hy) J2 (Xr_tr f1 r1) (fun i hi => (r2 i hi).trans (f2 i hi)) r3
/-- what the reference's reckoning may change: rows of its numbers, and its marks -/
def Xm (J J' : Nat → Nat → Int64) : Prop := ∀ a k, a ≠ 103 → ¬ (a = 89 ∧ (k = 32 ∨ k = 33)) → J' a k = J a k
def Xi (I I' : Nat → Nat → Int32) : Prop := ∀ a k, ¬ (a = 89 ∧ k = 31) → I' a k = I a k
theorem Xm_rf {J : Nat → Nat → Int64} : Xm J J := fun _ _ _ _ => rfl
theorem Xi_rf {I : Nat → Nat → Int32} : Xi I I := fun _ _ _ => rfl
theorem Xm_tr {J J2 J3 : Nat → Nat → Int64} (h : Xm J J2) (h2 : Xm J2 J3) : Xm J J3 := fun a k h3 h4 => (h2 a k h3 h4).trans (h a k h3 h4)
theorem Xi_tr {I I2 I3 : Nat → Nat → Int32} (h : Xi I I2) (h2 : Xi I2 I3) : Xi I I3 := fun a k h3 => (h2 a k h3).trans (h a k h3)
theorem Xm_x {J J2 : Nat → Nat → Int64} (h : Xr 103 J J2) : Xm J J2 := fun a k h3 _ => by rw [h a h3]
theorem Xm_u {J J2 : Nat → Nat → Int64} {k : Nat} {z : Int64} (hk : k = 32 ∨ k = 33) (h : Xm J J2) : Xm J (u2 J2 89 k z) := fun a j h3 h4 => by
  rw [show u2 J2 89 k z a j = J2 a j from if_neg (fun (q : a = 89 ∧ j = k) => h4 ⟨q.1, by rw [q.2]; exact hk⟩)]
  exact h a j h3 h4
theorem Xi_u {I I2 : Nat → Nat → Int32} {z : Int32} (h : Xi I I2) : Xi I (u2 I2 89 31 z) := fun a j h4 => by
  rw [show u2 I2 89 31 z a j = I2 a j from if_neg h4]
  exact h a j h4
theorem Xi_91 {I I2 : Nat → Nat → Int32} (h : Xi I I2) : I2 91 = I 91 := funext (fun k => h 91 k (by omega))
theorem Xi_r {I I2 : Nat → Nat → Int32} (h : Xi I I2) {a : Nat} (ha : a ≠ 89) : I2 a = I a := funext (fun k => h a k (by omega))
theorem Xm_r {J J2 : Nat → Nat → Int64} (h : Xm J J2) {a : Nat} (ha : a ≠ 103) (ha2 : a ≠ 89) : J2 a = J a := funext (fun k => h a k ha (by omega))
theorem c_reckonAll (hg : Geo g) (hE : EB E) {J : Nat → Nat → Int64} (hW : ∀ w, w < 8 → J 102 (w + 1) = lI (E w)) {cC : Nat → Int32} {k a b a' b' m : Nat} {v : aV} (h : Der cC (fun i => I 91 (564 + i)) k a b a' b' m v) (hb : b ≤ 400) (hm : m ≤ 64) {Q : aQ} (h0 : v E = none → ∀ I' J', Xi I I' → Xm J J' → I' 89 31 = nI 1 → Q none (g, I', J')) (h1 : ∀ x, v E = some x → ∀ I' J', Xi I I' → Xm J J' → I' 89 31 = nI 0 → J' 89 32 = lI x → Q none (g, I', J')) : a_call aTab aMX (d + 2) m_Mo_reckonAll [.ref 89, .int (nI a), .int (nI b)] (g, I, J) Q := by
  have hab := (Der_VB h).2
  rw [e_Mo_reckonAll, b_Mo_reckonAll_0 hg]
  have e91 : u2 I 89 31 (nI 0) 91 = I 91 := u2_r (by decide)
  refine RR_all (I := u2 I 89 31 (nI 0)) (J0 := J 102) hg u2_s hE hW (by rw [e91]; exact h) Q b 0 J rfl (Nat.le_refl _) hb (by omega) ?_ ?_ _ _ _
  · intro e J' z hJ
    exact h0 e _ _ (Xi_u (Xi_u Xi_rf)) (Xm_u (Or.inl rfl) (Xm_x hJ)) u2_s
  · intro x hx J' f1 f2 f3 v1 v5 v6
    rw [b_Mo_reckonAll_10]
    have q : ¬ b < b := Nat.lt_irrefl _
    have q2 : 0 < 0 + 1 := by omega
    simp (disch := omega) only [b_Mo_reckonAll_237, b_Mo_reckonAll_242 hg, b_Mo_reckonAll_252 hg, ↓reduceIte, neq, nlt, ncl, exI, exJ, exV, eq_self, true_and, and_true, true_or, or_true, if_true, if_false, not_true, not_false_eq_true, false_and, and_false, decide_true, decide_false, bi_T, bi_F, bi_0, bi_1, bi_z, bft, n10, n01, Nat.reduceEqDiff, Nat.reduceLT, Nat.reduceAdd, Nat.reduceMul, reduceCtorEq, q, q2, f3]
    exact h1 x hx _ _ (Xi_u Xi_rf) (Xm_u (Or.inl rfl) (Xm_x f1)) u2_s u2_s
end CR
