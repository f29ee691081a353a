/-! ===== made, who ===== -/
theorem lLt {a b : Nat} (ha : a < 4611686018427387904) (hb : b < 4611686018427387904) : (lN a < lN b) = (a < b) := by
  rw [← lI_n, ← lI_n, lI_lt (by omega) (by omega) (by omega) (by omega)]
  apply propext
  omega
theorem wS_le {fu s : Nat} {A : Nat → List (Nat × Nat)} (hA : ∀ f, (A f).length ≤ 4096) : wS fu A s ≤ 68719476736 := by
  unfold wS
  have a0 := hA (th s 0)
  have a1 := hA (th s 1)
  have a2 := hA (th s 2)
  split
  · have := fb_ct_le (fun i => decide (LM (A (th s 0)) i = fu)) (A (th s 0)).length
    unfold ct1
    omega
  · split
    · have : ct2 fu (LM (A (th s 0))) (LM (A (th s 1))) (A (th s 0)).length (A (th s 1)).length ≤ (A (th s 0)).length * 4096 := fb_sm_bound (fun k _ => Nat.le_trans (fb_ct_le _ _) a1)
      omega
    · have : ct3 fu (LM (A (th s 0))) (LM (A (th s 1))) (LM (A (th s 2))) (A (th s 0)).length (A (th s 1)).length (A (th s 2)).length ≤ (A (th s 0)).length * 16777216 := fb_sm_bound (fun k _ => by
        have h1 : row3 fu (LM (A (th s 0)) k) (LM (A (th s 1))) (LM (A (th s 2))) (A (th s 1)).length (A (th s 2)).length ≤ (A (th s 1)).length * 4096 := fb_sm_bound (fun k _ => Nat.le_trans (fb_ct_le _ _) a2)
        omega)
      omega
theorem totW_le {fu c : Nat} {A : Nat → List (Nat × Nat)} (hA : ∀ f, (A f).length ≤ 4096) : totW fu A c ≤ 64 * 68719476736 := fb_sm_bound (fun t _ => by
  unfold wM
  split
  · exact wS_le hA
  · omega)
theorem BST_1 {fu c n t t' : Nat} {A : Nat → List (Nat × Nat)} (h : BST fu A c n t) (h' : BST fu A c n t') : t = t' := by
  have a := h.2.2 t' h'.1 h'.2.1
  have b := h'.2.2 t h.1 h.2.1
  omega
theorem plL_4 (S : Nat → Nat → Nat) (T : Nat → Int32) (f : Nat) : (plL S T f (nPl S)).length ≤ 4096 := by
  have := plL_len S T f (nPl S)
  have : nPl S ≤ 4096 := by unfold nPl; omega
  omega
section MDE
variable {N : Nat} {X : Nat → Int32} {ow : Nat → Nat} {S : Nat → Nat → Nat} {LF : aLF} {g : aG} {I : Nat → Nat → Int32} {J : Nat → Nat → Int64} {Q : aQ} {d : Nat}
theorem c_ask (hg : Geo g) (hS : CS S I) {x : Int32} : a_call aTab aMX (d + 3) m_Cp_canBeAsked [.ref 6, .int x] (g, I, J) Q = Q (some (.int (bi (decide ((¬ x < nI 0 ∧ x < nI (1 <<< S 7 0)) ∧ tCells (I 14) ≤ 64))))) (g, I, J) := by
  have h7 := sb7 hS.2 0
  have ht : tCells (I 14) ≤ 512 := tC_le (I 14) 16
  by_cases q1 : x < nI 0
  · simp (disch := omega) only [e_Cp_canBeAsked, b_Cp_canBeAsked_0, b_Cp_canBeAsked_4 hg, b_Cp_canBeAsked_17 hg, b_Cp_canBeAsked_24, b_Cp_canBeAsked_29, b_Cp_canBeAsked_33, b_Cp_canBeAsked_34, q1, exI, exJ, exV, eq_self, true_and, and_true, true_or, or_true, if_true, if_false, not_true, not_false_eq_true, false_and, and_false, decide_true, decide_false, bi_T, bi_F, bi_0, bi_1, bi_z, bft, n10, n01, Nat.reduceEqDiff, Nat.reduceLT, Nat.reduceAdd, Nat.reduceMul, reduceCtorEq]
  by_cases q2 : x < nI (1 <<< S 7 0)
  rotate_left
  · simp (disch := omega) only [e_Cp_canBeAsked, b_Cp_canBeAsked_0, b_Cp_canBeAsked_4 hg, b_Cp_canBeAsked_17 hg, b_Cp_canBeAsked_24, b_Cp_canBeAsked_29, b_Cp_canBeAsked_33, b_Cp_canBeAsked_34, cs7 hS, nshl, q1, q2, exI, exJ, exV, eq_self, true_and, and_true, true_or, or_true, if_true, if_false, not_true, not_false_eq_true, false_and, and_false, decide_true, decide_false, bi_T, bi_F, bi_0, bi_1, bi_z, bft, n10, n01, Nat.reduceEqDiff, Nat.reduceLT, Nat.reduceAdd, Nat.reduceMul, reduceCtorEq]
  by_cases q3 : tCells (I 14) ≤ 64
  · have q4 : ¬ 64 < tCells (I 14) := by omega
    simp (disch := omega) only [e_Cp_canBeAsked, b_Cp_canBeAsked_0, b_Cp_canBeAsked_4 hg, b_Cp_canBeAsked_17 hg, b_Cp_canBeAsked_24, b_Cp_canBeAsked_29, b_Cp_canBeAsked_33, b_Cp_canBeAsked_34, cs7 hS, nshl, q1, q2, q3, q4, c_toldCells hg, nlt, exI, exJ, exV, eq_self, true_and, and_true, true_or, or_true, if_true, if_false, not_true, not_false_eq_true, false_and, and_false, decide_true, decide_false, bi_T, bi_F, bi_0, bi_1, bi_z, bft, n10, n01, Nat.reduceEqDiff, Nat.reduceLT, Nat.reduceAdd, Nat.reduceMul, reduceCtorEq]
  · have q4 : 64 < tCells (I 14) := by omega
    simp (disch := omega) only [e_Cp_canBeAsked, b_Cp_canBeAsked_0, b_Cp_canBeAsked_4 hg, b_Cp_canBeAsked_17 hg, b_Cp_canBeAsked_24, b_Cp_canBeAsked_29, b_Cp_canBeAsked_33, b_Cp_canBeAsked_34, cs7 hS, nshl, q1, q2, q3, q4, c_toldCells hg, nlt, exI, exJ, exV, eq_self, true_and, and_true, true_or, or_true, if_true, if_false, not_true, not_false_eq_true, false_and, and_false, decide_true, decide_false, bi_T, bi_F, bi_0, bi_1, bi_z, bft, n10, n01, Nat.reduceEqDiff, Nat.reduceLT, Nat.reduceAdd, Nat.reduceMul, reduceCtorEq]
theorem c_isCast (hg : Geo g) (hB : SB S) {T : Nat → Int32} (hM : MS S T (I 91)) {x : Int32} : a_call aTab aMX (d + 2) m_Mo_isCast [.ref 89, .int x] (g, I, J) Q = Q (some (.int (bi (decide (¬ x < nI 0 ∧ x < nI (1 <<< S 7 0)))))) (g, I, J) := by
  have h7 := sb7 hB 0
  have hp : 1 <<< S 7 0 ≤ 64 := by
    rw [Nat.one_shiftLeft]
    exact Nat.le_trans (Nat.pow_le_pow_right (by decide) h7) (by decide)
  simp (disch := omega) only [e_Mo_isCast, b_Mo_isCast_0 hg, b_Mo_isCast_17, ncl, ms0 hM, nshl, nL, c_in, wlt, wfig, Decidable.not_not, exI, exJ, exV, eq_self, true_and, and_true, true_or, or_true, if_true, if_false, not_true, not_false_eq_true, false_and, and_false, decide_true, decide_false, bi_T, bi_F, bi_0, bi_1, bi_z, bft, n10, n01, Nat.reduceEqDiff, Nat.reduceLT, Nat.reduceAdd, Nat.reduceMul, reduceCtorEq]
theorem INV_md {I' : Nat → Nat → Int32} {J' : Nat → Nat → Int64} (h : INV N X ow S LF g I J) (hI : ∀ a k, ¬ (113 ≤ a ∧ a ≤ 121) → ¬ (a = 89 ∧ (k = 0 ∨ k = 49 ∨ k = 55 ∨ k = 56)) → I' a k = I a k) (hJ : ∀ a k, a ≠ 115 → ¬ (a = 89 ∧ k = 58) → J' a k = J a k) : INV N X ow S LF g I' J' := by
  obtain ⟨c1, c2, c3, c4, c5⟩ := h.2.2.2.2.2.2.1
  have r : ∀ a, ¬ (113 ≤ a ∧ a ≤ 121) → a ≠ 89 → I' a = I a := fun a y1 y2 => funext (fun k => hI a k y1 (by omega))
  have rj : ∀ a, a ≠ 115 → a ≠ 89 → J' a = J a := fun a y1 y2 => funext (fun k => hJ a k y1 (by omega))
  refine INV_ca h h.1 (fun a y1 y2 y3 y4 => r a (by omega) y3) (fun j hj => hI 89 j (by omega) (by omega)) (IMs_c h.1.2.2.2.2.2.1 (r 92 (by decide) (by decide)) (r 93 (by decide) (by decide)) (fun a y1 _ _ => r a (by omega) (by omega)) h.2.2.2.1) (rj 100 (by decide) (by decide)) (HC_c (r 38 (by decide) (by decide)) (r 39 (by decide) (by decide)) (rj 37 (by decide) (by decide)) c1) (by rw [r 46 (by decide) (by decide)]; exact c2) ?_ ?_ (MC_c h.1.2.2.2.1 (fun a y1 y2 => r a (by omega) (by omega)) ⟨rj 49 (by decide) (by decide), rj 50 (by decide) (by decide)⟩ (fun a y1 _ _ => ⟨r a (by omega) (by omega), rj a (by omega) (by omega)⟩) c5)
  · unfold PR at c3 ⊢
    rw [r 44 (by decide) (by decide), r 47 (by decide) (by decide)]; exact c3
  · unfold RC LR at c4 ⊢
    rw [hI 89 36 (by decide) (by decide), hI 89 44 (by decide) (by decide), hI 89 45 (by decide) (by decide), r 112 (by decide) (by decide)]; exact c4
theorem c_solveO (h : INV N X ow S LF g I J) (ht : tCells (I 14) ≤ 64) {c : Nat} (hc : c < 64) (hQ : ∀ ow2 g2 I2 J2, INV N X ow2 S LF g2 I2 J2 → I2 14 = I 14 → MR S (I 14) c I2 J2 → Q none (g2, I2, J2)) : a_call aTab aMX (d + 7) m_Maker_solve [.ref 49, .int (nI c)] (g, I, J) Q := by
  obtain ⟨hg, hx, hN, hP, hL, hI, hr1, hr2⟩ := h.1
  obtain ⟨c1, c2, c3, c4, c5⟩ := h.2.2.2.2.2.2.1
  refine c_solve hg hx h.2.2.1.1 ht hP c5 hc (fun ow2 g2 I2 J2 gq m1 m2 m3 => ?_)
  obtain ⟨a1, ⟨a2, a3⟩, a4, a5, a6, a7, a8⟩ := gq
  have gw := Gw_p a1
  have h21 : ∀ f, f < 2 → gR g2 21 f = gR g 21 f := fun f _ => (a1.2 21 (by omega)).2.2 f (by omega)
  have h44 : ∀ f, gR g2 44 f = gR g 44 f := fun f => (a1.2 44 (by omega)).2.2 f (by omega)
  have p1 : pn g2 = pn g := by unfold pn; rw [h44]
  have p2 : imn g2 = imn g := fb_ct_cong (fun f hf => by rw [h21 f hf])
  have r : ∀ a, a < 123 → ¬ (49 ≤ a ∧ a ≤ 86) → I2 a = I a := a6
  have rj : ∀ a, a < 123 → a ≠ 49 → a ≠ 50 → J2 a = J a := a7
  refine hQ ow2 g2 I2 J2 (INV_ca h ⟨Gp_geo hx a1 hg, Nat.le_trans hx a1.1, by rw [(a1.2 1 (by omega)).2.1]; exact hN, a4, PLg_w gw ⟨h44 6, h44 7⟩ a5 hL, IMg_w gw h21 a5 hI, by rw [p1, p2]; omega, by rw [p1, p2]; omega⟩ (fun a y1 y2 y3 y4 => r a y1 (by omega)) (fun j hj => by rw [r 89 (by decide) (by decide)]) (IMs_w hI h21 (r 92 (by decide) (by decide)) (r 93 (by decide) (by decide)) (fun a y1 y2 y3 y4 => (a8 a y1 y2 (by omega)).1) h.2.2.2.1) (rj 100 (by decide) (by decide) (by decide)) (HC_c (r 38 (by decide) (by decide)) (r 39 (by decide) (by decide)) (rj 37 (by decide) (by decide) (by decide)) c1) (by rw [r 46 (by decide) (by decide)]; exact c2) ?_ ?_ m1) (r 14 (by decide) (by decide)) m3
  · unfold PR at c3 ⊢
    rw [r 44 (by decide) (by decide), r 47 (by decide) (by decide)]; exact c3
  · unfold RC LR at c4 ⊢
    rw [r 89 (by decide) (by decide), r 112 (by decide) (by decide)]; exact c4
/-- both have found: the count, the fewest, the first set, what of it -/
def FND (S : Nat → Nat → Nat) (T : Nat → Int32) (c : Nat) (I : Nat → Nat → Int32) (J : Nat → Nat → Int64) (I' : Nat → Nat → Int32) (J' : Nat → Nat → Int64) : Prop := (∃ w, w < 4611686018427387904 ∧ J 49 9 = lN w ∧ J' 89 58 = lN (min 1000000000 w)) ∧ I 49 0 = I' 89 55 ∧ ∃ t, t < 64 ∧ I 49 10 = nI t ∧ I' 89 56 = nI t ∧ ∀ f, f < 6 → t.testBit f = true → ∃ i, i < 4096 ∧ I' 120 f = nI i ∧ I 85 f = I' 116 (4096 * f + i)
theorem fnd {T : Nat → Int32} {c : Nat} {I' : Nat → Nat → Int32} {J' : Nat → Nat → Int64} (h : MR S T c I J) (h1 : tCells T = 0 → I' 89 55 = nI 0 ∧ I' 89 56 = nI 0 ∧ J' 89 58 = lN 1) (h2 : tCells T ≠ 0 → J' 89 58 = lN (min 1000000000 (totW (2 ^ tCells T - 1) (fun f => plL S T f (nPl S)) c)) ∧ MADE (2 ^ tCells T - 1) (fun f => plL S T f (nPl S)) c 64 (fun _ i => i) (I' 89 55) (I' 89 56) (I' 120) ∧ ∀ f, f < 6 → c.testBit f = true → RLs f (plL S T f (nPl S)) I' J') : FND S T c I J I' J' := by
  by_cases q : tCells T = 0
  · obtain ⟨a1, a2, a3⟩ := h.1 q
    obtain ⟨b1, b2, b3⟩ := h1 q
    exact ⟨⟨1, by decide, a3, b3⟩, by rw [a1, b1], 0, by decide, a2, b2, fun f _ z => by simp at z⟩
  obtain ⟨a1, a2⟩ := h.2 q
  obtain ⟨b1, b2, b3⟩ := h2 q
  have hA := plL_4 S T
  generalize eA : (fun f => plL S T f (nPl S)) = A at a1 a2 b1 b2
  have eAf : ∀ f, plL S T f (nPl S) = A f := fun f => by rw [← eA]
  generalize 2 ^ tCells T - 1 = fu at a1 a2 b1 b2
  have hw := totW_le (fu := fu) (c := c) (A := A) (fun f => by rw [← eAf]; exact hA f)
  refine ⟨⟨_, by omega, a1, b1⟩, ?_⟩
  by_cases z : fb_sm (wM fu A c) 64 = 0
  · obtain ⟨y1, y2⟩ := a2.1 z
    obtain ⟨y3, y4⟩ := b2.1 z
    exact ⟨by rw [y1, y3], 0, by decide, y2, y4, fun f _ z => by simp at z⟩
  obtain ⟨t, t1, t2, t3, t4⟩ := a2.2 z
  obtain ⟨t', u1, u2', u3, u4⟩ := b2.2 z
  have e := BST_1 t1 u1
  subst e
  have hin := wM_in t1.2.1
  refine ⟨by rw [t2, u2'], t, t1.1, t3, u3, fun f hf hb => ?_⟩
  obtain ⟨i, i1, i2, i3⟩ := CHO_eq t1.1 hin.2.2 t4 u4 hf hb
  have hcb : c.testBit f = true := by
    have := hin.2.1
    rw [← this, Nat.testBit_and] at hb
    revert hb
    cases c.testBit f <;> simp
  have hr := (b3 f hf hcb).2 i (by rw [eAf]; exact i1)
  have l4 := hA f
  rw [eAf] at l4
  refine ⟨i, by omega, i3, ?_⟩
  rw [i2, hr.2, eAf]
theorem c_md (h : INV N X ow S LF g I J) {I2 : Nat → Nat → Int32} {J2 : Nat → Nat → Int64} {c : Nat} (hc : c < 64) (ht : tCells (I 14) ≤ 64) (h49 : I2 89 49 = nI (tCells (I 14))) (hCL : CL (I 14) 512 (I2 114) (I2 113)) (i2 : INV N X ow S LF g I2 J2) (e14 : I2 14 = I 14) {I0 : Nat → Nat → Int32} {J0 : Nat → Nat → Int64} (hR : MR S (I 14) c I0 J0) (hQ : ∀ I3 J3, INV N X ow S LF g I3 J3 → FND S (I 14) c I0 J0 I3 J3 → Q none (g, I3, J3)) : a_call aTab aMX (d + 5) m_Mo_findMade [.ref 89, .int (nI c)] (g, I2, J2) Q := by
  have hM := i2.2.2.1.2.1
  rw [e14] at hM
  refine c_findMade i2.1.1 i2.2.2.1.1.2 hM ht h49 hCL hc (fun I3 J3 x1 x2 x3 => ?_)
  exact hQ I3 J3 (INV_md i2 (fun a k y1 y2 => x1.1 a k (by omega) (by omega)) (fun a k y1 y2 => x1.2 a k y1 y2)) (fnd hR x2 x3)
theorem cast_of {x : Int32} {n : Nat} (hn : n ≤ 6) (h : ¬ x < nI 0 ∧ x < nI (1 <<< n)) : ∃ c, c < 64 ∧ x = nI c := by
  have hp : 1 <<< n ≤ 64 := by
    rw [Nat.one_shiftLeft]
    exact Nat.le_trans (Nat.pow_le_pow_right (by decide) hn) (by decide)
  rcases nIx x (1 <<< n) (by omega) with w | ⟨w1, w2⟩ | ⟨m, w1, w2⟩
  · exact absurd w h.1
  · exact absurd h.2 w2
  · exact ⟨m, by omega, w2⟩
/-- the reference, from its last test on -/
theorem m_made {x y : Int32} (h : INV N X ow S LF g I J) : BOTH N X (d + 8) m_Cp_made m_Mo_made [.int x, .int y] (g, I, J) := by
  have hg := h.1.1
  have hS := h.2.2.1.1
  have hB := hS.2
  have h7 := sb7 hB 0
  have hM := hM0 h
  by_cases qy : ¬ y < nI 0 ∧ ¬ nI 1 < y
  rotate_left
  · have q0 : y ≠ nI 0 := fun z => qy (by rw [z]; decide)
    have q1 : y ≠ nI 1 := fun z => qy (by rw [z]; decide)
    refine both_t h (-1) (fun Q hq => ?_) (fun Q hq => ?_)
    · simp (disch := omega) only [e_Cp_made, b_Cp_made_0, b_Cp_made_4, b_Cp_made_9 hg, b_Cp_made_14, b_Cp_made_17, b_Cp_made_19 hg, b_Cp_made_27, b_Cp_made_31 hg, b_Cp_made_38, b_Cp_made_41 hg, b_Cp_made_48, q0, q1, exI, exJ, exV, eq_self, true_and, and_true, true_or, or_true, if_true, if_false, not_true, not_false_eq_true, false_and, and_false, decide_true, decide_false, bi_T, bi_F, bi_0, bi_1, bi_z, bft, n10, n01, Nat.reduceEqDiff, Nat.reduceLT, Nat.reduceAdd, Nat.reduceMul, reduceCtorEq]; exact hq
    · rw [e_Mo_made, b_Mo_made_0 hg, c_isCast hg hB hM]
      generalize bi (decide (¬ x < nI 0 ∧ x < nI (1 <<< S 7 0))) = w
      simp only [exI]
      rw [b_Mo_made_10]
      by_cases qw : w = nI 0
      · simp (disch := omega) only [qw, b_Mo_made_30, exI, exJ, exV, eq_self, true_and, and_true, true_or, or_true, if_true, if_false, not_true, not_false_eq_true, false_and, and_false, decide_true, decide_false, bi_T, bi_F, bi_0, bi_1, bi_z, bft, n10, n01, Nat.reduceEqDiff, Nat.reduceLT, Nat.reduceAdd, Nat.reduceMul, reduceCtorEq]; exact hq
      · simp (disch := omega) only [qw, b_Mo_made_13, b_Mo_made_20, b_Mo_made_30, c_inI, decide_eq_false qy, exI, exJ, exV, eq_self, true_and, and_true, true_or, or_true, if_true, if_false, not_true, not_false_eq_true, false_and, and_false, decide_true, decide_false, bi_T, bi_F, bi_0, bi_1, bi_z, bft, n10, n01, Nat.reduceEqDiff, Nat.reduceLT, Nat.reduceAdd, Nat.reduceMul, reduceCtorEq]; exact hq
  obtain ⟨w, rfl, -, hw⟩ := irng (by decide) (by decide) qy.1 qy.2
  have hc : w = 0 ∨ w = 1 := by omega
  have st : ∀ Q : aQ, a_wp aTab aMX (d + 7) m_Cp_made 9 [.ref 6, .int x, .int (nI w)] [] (g, I, J) Q → a_call aTab aMX (d + 8) m_Cp_made [.ref 6, .int x, .int (nI w)] (g, I, J) Q := fun Q hq => by
    rcases hc with rfl | rfl
    · simp (disch := omega) only [e_Cp_made, b_Cp_made_0, exI, exJ, exV, eq_self, true_and, and_true, true_or, or_true, if_true, if_false, not_true, not_false_eq_true, false_and, and_false, decide_true, decide_false, bi_T, bi_F, bi_0, bi_1, bi_z, bft, n10, n01, Nat.reduceEqDiff, Nat.reduceLT, Nat.reduceAdd, Nat.reduceMul, reduceCtorEq]; exact hq
    · simp (disch := omega) only [e_Cp_made, b_Cp_made_0, b_Cp_made_4, exI, exJ, exV, eq_self, true_and, and_true, true_or, or_true, if_true, if_false, not_true, not_false_eq_true, false_and, and_false, decide_true, decide_false, bi_T, bi_F, bi_0, bi_1, bi_z, bft, n10, n01, Nat.reduceEqDiff, Nat.reduceLT, Nat.reduceAdd, Nat.reduceMul, reduceCtorEq]; exact hq
  by_cases qx : ¬ x < nI 0 ∧ x < nI (1 <<< S 7 0)
  rotate_left
  · refine both_t h (-1) (fun Q hq => st Q ?_) (fun Q hq => ?_)
    · simp (disch := omega) only [b_Cp_made_9 hg, b_Cp_made_14, b_Cp_made_17, c_ask hg hS, decide_eq_false (fun z => qx (And.left z)), exI, exJ, exV, eq_self, true_and, and_true, true_or, or_true, if_true, if_false, not_true, not_false_eq_true, false_and, and_false, decide_true, decide_false, bi_T, bi_F, bi_0, bi_1, bi_z, bft, n10, n01, Nat.reduceEqDiff, Nat.reduceLT, Nat.reduceAdd, Nat.reduceMul, reduceCtorEq]; exact hq
    · simp (disch := omega) only [e_Mo_made, b_Mo_made_0 hg, b_Mo_made_10, b_Mo_made_30, c_isCast hg hB hM, decide_eq_false qx, exI, exJ, exV, eq_self, true_and, and_true, true_or, or_true, if_true, if_false, not_true, not_false_eq_true, false_and, and_false, decide_true, decide_false, bi_T, bi_F, bi_0, bi_1, bi_z, bft, n10, n01, Nat.reduceEqDiff, Nat.reduceLT, Nat.reduceAdd, Nat.reduceMul, reduceCtorEq]; exact hq
  by_cases qt : tCells (I 14) ≤ 64
  rotate_left
  · unfold BOTH
    refine st _ ?_
    simp (disch := omega) only [b_Cp_made_9 hg, b_Cp_made_14, b_Cp_made_17, c_ask hg hS, decide_eq_false (fun z => qt (And.right z)), exI, exJ, exV, eq_self, true_and, and_true, true_or, or_true, if_true, if_false, not_true, not_false_eq_true, false_and, and_false, decide_true, decide_false, bi_T, bi_F, bi_0, bi_1, bi_z, bft, n10, n01, Nat.reduceEqDiff, Nat.reduceLT, Nat.reduceAdd, Nat.reduceMul, reduceCtorEq]
    refine ⟨h.2.1, h.1.2.2.1, ?_⟩
    simp (disch := omega) only [e_Mo_made, b_Mo_made_0 hg, b_Mo_made_10, b_Mo_made_13, b_Mo_made_20, b_Mo_made_23 hg, c_isCast hg hB hM, decide_eq_true qx, c_inI, decide_eq_true qy, exI, exJ, exV, eq_self, true_and, and_true, true_or, or_true, if_true, if_false, not_true, not_false_eq_true, false_and, and_false, decide_true, decide_false, bi_T, bi_F, bi_0, bi_1, bi_z, bft, n10, n01, Nat.reduceEqDiff, Nat.reduceLT, Nat.reduceAdd, Nat.reduceMul, reduceCtorEq]
    refine c_findCells hg hM (fun z => absurd z qt) (fun _ I2 x1 => ?_)
    simp (disch := omega) only [b_Mo_made_27, b_Mo_made_30, exI, exJ, exV, eq_self, true_and, and_true, true_or, or_true, if_true, if_false, not_true, not_false_eq_true, false_and, and_false, decide_true, decide_false, bi_T, bi_F, bi_0, bi_1, bi_z, bft, n10, n01, Nat.reduceEqDiff, Nat.reduceLT, Nat.reduceAdd, Nat.reduceMul, reduceCtorEq]
    exact INVx_i (INV_md (INV_0 h) (fun a k y1 y2 => x1 a k (by omega) (by omega) (by omega)) (fun _ _ _ _ => rfl))
  obtain ⟨c, hc64, rfl⟩ := cast_of h7 qx
  unfold BOTH
  refine st _ ?_
  simp (disch := omega) only [b_Cp_made_9 hg, b_Cp_made_14, b_Cp_made_19 hg, c_ask hg hS, decide_eq_true (And.intro qx qt), exI, exJ, exV, eq_self, true_and, and_true, true_or, or_true, if_true, if_false, not_true, not_false_eq_true, false_and, and_false, decide_true, decide_false, bi_T, bi_F, bi_0, bi_1, bi_z, bft, n10, n01, Nat.reduceEqDiff, Nat.reduceLT, Nat.reduceAdd, Nat.reduceMul, reduceCtorEq]
  refine c_solveO h qt hc64 (fun ow2 g2 I2 J2 i2 e14 mr => ?_)
  have hg2 := i2.1.1
  simp only [exV, true_and]
  have hM2 := hM0 i2
  rw [← e14] at qt mr
  have ref : ∀ V : Int32, (∀ I' J', FND S (I2 14) c I2 J2 I' J' → V = if w = 0 then (J' 89 58).toInt32 else I' 89 55) → a_call aTab aMX (d + 8) m_Mo_made [.ref 89, .int (nI c), .int (nI w)] (g2, I2, J2) (fun v3 h3 => ∃ i3 : Int32, v3 = some (.int i3) ∧ V = i3 ∧ INVx N X h3) := by
    intro V hV
    simp (disch := omega) only [e_Mo_made, b_Mo_made_0 hg2, b_Mo_made_10, b_Mo_made_13, b_Mo_made_20, b_Mo_made_23 hg2, c_isCast hg2 hB hM2, decide_eq_true qx, c_inI, decide_eq_true qy, exI, exJ, exV, eq_self, true_and, and_true, true_or, or_true, if_true, if_false, not_true, not_false_eq_true, false_and, and_false, decide_true, decide_false, bi_T, bi_F, bi_0, bi_1, bi_z, bft, n10, n01, Nat.reduceEqDiff, Nat.reduceLT, Nat.reduceAdd, Nat.reduceMul, reduceCtorEq]
    refine c_findCells hg2 hM2 (fun _ I3 x1 x2 x3 => ?_) (fun z => absurd qt z)
    simp (disch := omega) only [b_Mo_made_27, b_Mo_made_32 hg2, exI, exJ, exV, eq_self, true_and, and_true, true_or, or_true, if_true, if_false, not_true, not_false_eq_true, false_and, and_false, decide_true, decide_false, bi_T, bi_F, bi_0, bi_1, bi_z, bft, n10, n01, Nat.reduceEqDiff, Nat.reduceLT, Nat.reduceAdd, Nat.reduceMul, reduceCtorEq]
    have i3 : INV N X ow2 S LF g2 I3 J2 := INV_md (INV_0 i2) (fun a k y1 y2 => x1 a k (by omega) (by omega) (by omega)) (fun _ _ _ _ => rfl)
    refine c_md i2 hc64 qt x2 x3 i3 (funext (fun j => by rw [x1 14 j (by decide) (by decide) (by omega), u2_n (by omega)])) mr (fun I4 J4 i4 fd => ?_)
    simp only [exV, true_and]
    have := hV I4 J4 fd
    rcases hc with rfl | rfl
    · simp (disch := omega) only [b_Mo_made_37, b_Mo_made_41 hg2, b_Mo_made_53, this, exI, exJ, exV, eq_self, true_and, and_true, true_or, or_true, if_true, if_false, not_true, not_false_eq_true, false_and, and_false, decide_true, decide_false, bi_T, bi_F, bi_0, bi_1, bi_z, bft, n10, n01, Nat.reduceEqDiff, Nat.reduceLT, Nat.reduceAdd, Nat.reduceMul, reduceCtorEq]
      exact INVx_i i4
    · simp (disch := omega) only [b_Mo_made_37, b_Mo_made_49 hg2, b_Mo_made_53, this, exI, exJ, exV, eq_self, true_and, and_true, true_or, or_true, if_true, if_false, not_true, not_false_eq_true, false_and, and_false, decide_true, decide_false, bi_T, bi_F, bi_0, bi_1, bi_z, bft, n10, n01, Nat.reduceEqDiff, Nat.reduceLT, Nat.reduceAdd, Nat.reduceMul, reduceCtorEq, Nat.one_ne_zero]
      exact INVx_i i4
  rcases hc with rfl | rfl
  · simp (disch := omega) only [b_Cp_made_27, b_Cp_made_31 hg2, b_Cp_made_38, b_Cp_made_48, e_Maker_wayCount, b_Maker_wayCount_0 hg2, exI, exJ, exV, eq_self, true_and, and_true, true_or, or_true, if_true, if_false, not_true, not_false_eq_true, false_and, and_false, decide_true, decide_false, bi_T, bi_F, bi_0, bi_1, bi_z, bft, n10, n01, Nat.reduceEqDiff, Nat.reduceLT, Nat.reduceAdd, Nat.reduceMul, reduceCtorEq]
    refine ⟨i2.2.1, i2.1.2.2.1, ref _ (fun I' J' fd => ?_)⟩
    obtain ⟨⟨wv, w1, w2, w3⟩, -⟩ := fd
    rw [if_pos rfl, w2, w3]
    simp only [lLt w1 (show 1000000000 < 4611686018427387904 by decide)]
    by_cases z : wv < 1000000000
    · rw [if_pos z, Nat.min_eq_right (by omega)]
    · rw [if_neg z, Nat.min_eq_left (by omega)]
  · simp (disch := omega) only [b_Cp_made_27, b_Cp_made_41 hg2, b_Cp_made_48, exI, exJ, exV, eq_self, true_and, and_true, true_or, or_true, if_true, if_false, not_true, not_false_eq_true, false_and, and_false, decide_true, decide_false, bi_T, bi_F, bi_0, bi_1, bi_z, bft, n10, n01, Nat.reduceEqDiff, Nat.reduceLT, Nat.reduceAdd, Nat.reduceMul, reduceCtorEq]
    refine ⟨i2.2.1, i2.1.2.2.1, ref _ (fun I' J' fd => ?_)⟩
    rw [if_neg (by decide)]
    exact fd.2.1
theorem m_who {x f y : Int32} (h : INV N X ow S LF g I J) : BOTH N X (d + 8) m_Cp_who m_Mo_who [.int x, .int f, .int y] (g, I, J) := by
  have hg := h.1.1
  have hS := h.2.2.1.1
  have hB := hS.2
  have h7 := sb7 hB 0
  have hM := hM0 h
  -- where one of the first three tests fails
  by_cases qq : (¬ y < nI 0 ∧ ¬ nI 3 < y) ∧ hasS S f = true ∧ (¬ x < nI 0 ∧ x < nI (1 <<< S 7 0))
  rotate_left
  · refine both_t h (-1) (fun Q hq => ?_) (fun Q hq => ?_)
    · by_cases y0 : y < nI 0
      · simp (disch := omega) only [e_Cp_who, b_Cp_who_0, b_Cp_who_4, b_Cp_who_9 hg, b_Cp_who_17, b_Cp_who_20 hg, b_Cp_who_25, b_Cp_who_28, b_Cp_who_30 hg, b_Cp_who_38 hg, b_Cp_who_49, b_Cp_who_53 hg, b_Cp_who_62, y0, exI, exJ, exV, eq_self, true_and, and_true, true_or, or_true, if_true, if_false, not_true, not_false_eq_true, false_and, and_false, decide_true, decide_false, bi_T, bi_F, bi_0, bi_1, bi_z, bft, n10, n01, Nat.reduceEqDiff, Nat.reduceLT, Nat.reduceAdd, Nat.reduceMul, reduceCtorEq]; exact hq
      by_cases y1 : nI 3 < y
      · simp (disch := omega) only [e_Cp_who, b_Cp_who_0, b_Cp_who_4, b_Cp_who_9 hg, b_Cp_who_17, b_Cp_who_20 hg, b_Cp_who_25, b_Cp_who_28, b_Cp_who_30 hg, b_Cp_who_38 hg, b_Cp_who_49, b_Cp_who_53 hg, b_Cp_who_62, y0, y1, exI, exJ, exV, eq_self, true_and, and_true, true_or, or_true, if_true, if_false, not_true, not_false_eq_true, false_and, and_false, decide_true, decide_false, bi_T, bi_F, bi_0, bi_1, bi_z, bft, n10, n01, Nat.reduceEqDiff, Nat.reduceLT, Nat.reduceAdd, Nat.reduceMul, reduceCtorEq]; exact hq
      by_cases hf : hasS S f = true
      rotate_left
      · simp (disch := omega) only [e_Cp_who, b_Cp_who_0, b_Cp_who_4, b_Cp_who_9 hg, b_Cp_who_17, b_Cp_who_20 hg, b_Cp_who_25, b_Cp_who_28, b_Cp_who_30 hg, b_Cp_who_38 hg, b_Cp_who_49, b_Cp_who_53 hg, b_Cp_who_62, y0, y1, c_has hg, hasS_I hS, hf, exI, exJ, exV, eq_self, true_and, and_true, true_or, or_true, if_true, if_false, not_true, not_false_eq_true, false_and, and_false, decide_true, decide_false, bi_T, bi_F, bi_0, bi_1, bi_z, bft, n10, n01, Nat.reduceEqDiff, Nat.reduceLT, Nat.reduceAdd, Nat.reduceMul, reduceCtorEq]; exact hq
      have qx : ¬ ((¬ x < nI 0 ∧ x < nI (1 <<< S 7 0)) ∧ tCells (I 14) ≤ 64) := fun z => qq ⟨⟨y0, y1⟩, hf, z.1⟩
      simp (disch := omega) only [e_Cp_who, b_Cp_who_0, b_Cp_who_4, b_Cp_who_9 hg, b_Cp_who_17, b_Cp_who_20 hg, b_Cp_who_25, b_Cp_who_28, b_Cp_who_30 hg, b_Cp_who_38 hg, b_Cp_who_49, b_Cp_who_53 hg, b_Cp_who_62, y0, y1, c_has hg, hasS_I hS, hf, c_ask hg hS, decide_eq_false qx, exI, exJ, exV, eq_self, true_and, and_true, true_or, or_true, if_true, if_false, not_true, not_false_eq_true, false_and, and_false, decide_true, decide_false, bi_T, bi_F, bi_0, bi_1, bi_z, bft, n10, n01, Nat.reduceEqDiff, Nat.reduceLT, Nat.reduceAdd, Nat.reduceMul, reduceCtorEq]; exact hq
    · by_cases qx : ¬ x < nI 0 ∧ x < nI (1 <<< S 7 0)
      rotate_left
      · simp (disch := omega) only [e_Mo_who, b_Mo_who_0 hg, b_Mo_who_10, b_Mo_who_40, c_isCast hg hB hM, decide_eq_false qx, exI, exJ, exV, eq_self, true_and, and_true, true_or, or_true, if_true, if_false, not_true, not_false_eq_true, false_and, and_false, decide_true, decide_false, bi_T, bi_F, bi_0, bi_1, bi_z, bft, n10, n01, Nat.reduceEqDiff, Nat.reduceLT, Nat.reduceAdd, Nat.reduceMul, reduceCtorEq]; exact hq
      by_cases hf : hasS S f = true
      rotate_left
      · simp (disch := omega) only [e_Mo_who, b_Mo_who_0 hg, b_Mo_who_10, b_Mo_who_13 hg, b_Mo_who_18, b_Mo_who_40, c_isCast hg hB hM, decide_eq_true qx, c_isFigure hg hB hM, hf, exI, exJ, exV, eq_self, true_and, and_true, true_or, or_true, if_true, if_false, not_true, not_false_eq_true, false_and, and_false, decide_true, decide_false, bi_T, bi_F, bi_0, bi_1, bi_z, bft, n10, n01, Nat.reduceEqDiff, Nat.reduceLT, Nat.reduceAdd, Nat.reduceMul, reduceCtorEq]; exact hq
      have qy : ¬ (¬ y < nI 0 ∧ ¬ nI 3 < y) := fun z => qq ⟨z, hf, qx⟩
      simp (disch := omega) only [e_Mo_who, b_Mo_who_0 hg, b_Mo_who_10, b_Mo_who_13 hg, b_Mo_who_18, b_Mo_who_21, b_Mo_who_30, b_Mo_who_40, c_isCast hg hB hM, decide_eq_true qx, c_isFigure hg hB hM, hf, c_inI, decide_eq_false qy, exI, exJ, exV, eq_self, true_and, and_true, true_or, or_true, if_true, if_false, not_true, not_false_eq_true, false_and, and_false, decide_true, decide_false, bi_T, bi_F, bi_0, bi_1, bi_z, bft, n10, n01, Nat.reduceEqDiff, Nat.reduceLT, Nat.reduceAdd, Nat.reduceMul, reduceCtorEq]; exact hq
  obtain ⟨qy, hf, qx⟩ := qq
  obtain ⟨n, hn, rfl⟩ := hasS_of hB hf
  obtain ⟨w, rfl, -, hw⟩ := irng (by decide) (by decide) qy.1 qy.2
  by_cases qt : tCells (I 14) ≤ 64
  rotate_left
  · unfold BOTH
    simp (disch := omega) only [e_Cp_who, b_Cp_who_0, b_Cp_who_4, b_Cp_who_9 hg, b_Cp_who_17, b_Cp_who_20 hg, b_Cp_who_25, b_Cp_who_28, b_Cp_who_30 hg, b_Cp_who_38 hg, b_Cp_who_49, b_Cp_who_53 hg, b_Cp_who_62, qy.1, qy.2, c_has hg, hasS_I hS, hf, c_ask hg hS, decide_eq_false (fun z => qt (And.right z)), exI, exJ, exV, eq_self, true_and, and_true, true_or, or_true, if_true, if_false, not_true, not_false_eq_true, false_and, and_false, decide_true, decide_false, bi_T, bi_F, bi_0, bi_1, bi_z, bft, n10, n01, Nat.reduceEqDiff, Nat.reduceLT, Nat.reduceAdd, Nat.reduceMul, reduceCtorEq]
    refine ⟨h.2.1, h.1.2.2.1, ?_⟩
    simp (disch := omega) only [e_Mo_who, b_Mo_who_0 hg, b_Mo_who_10, b_Mo_who_13 hg, b_Mo_who_18, b_Mo_who_21, b_Mo_who_30, b_Mo_who_33 hg, c_isCast hg hB hM, decide_eq_true qx, c_isFigure hg hB hM, hf, c_inI, decide_eq_true qy, exI, exJ, exV, eq_self, true_and, and_true, true_or, or_true, if_true, if_false, not_true, not_false_eq_true, false_and, and_false, decide_true, decide_false, bi_T, bi_F, bi_0, bi_1, bi_z, bft, n10, n01, Nat.reduceEqDiff, Nat.reduceLT, Nat.reduceAdd, Nat.reduceMul, reduceCtorEq]
    refine c_findCells hg hM (fun z => absurd z qt) (fun _ I2 x1 => ?_)
    simp (disch := omega) only [b_Mo_who_37, b_Mo_who_40, exI, exJ, exV, eq_self, true_and, and_true, true_or, or_true, if_true, if_false, not_true, not_false_eq_true, false_and, and_false, decide_true, decide_false, bi_T, bi_F, bi_0, bi_1, bi_z, bft, n10, n01, Nat.reduceEqDiff, Nat.reduceLT, Nat.reduceAdd, Nat.reduceMul, reduceCtorEq]
    exact INVx_i (INV_md (INV_0 h) (fun a k y1 y2 => x1 a k (by omega) (by omega) (by omega)) (fun _ _ _ _ => rfl))
  obtain ⟨c, hc64, rfl⟩ := cast_of h7 qx
  unfold BOTH
  simp (disch := omega) only [e_Cp_who, b_Cp_who_0, b_Cp_who_4, b_Cp_who_9 hg, b_Cp_who_17, b_Cp_who_20 hg, b_Cp_who_25, b_Cp_who_30 hg, qy.1, qy.2, c_has hg, hasS_I hS, hf, c_ask hg hS, decide_eq_true (And.intro qx qt), exI, exJ, exV, eq_self, true_and, and_true, true_or, or_true, if_true, if_false, not_true, not_false_eq_true, false_and, and_false, decide_true, decide_false, bi_T, bi_F, bi_0, bi_1, bi_z, bft, n10, n01, Nat.reduceEqDiff, Nat.reduceLT, Nat.reduceAdd, Nat.reduceMul, reduceCtorEq]
  refine c_solveO h qt hc64 (fun ow2 g2 I2 J2 i2 e14 mr => ?_)
  have hg2 := i2.1.1
  simp only [exV, true_and]
  have hM2 := hM0 i2
  rw [← e14] at qt mr
  -- what both tell of it
  obtain ⟨T, eT⟩ : ∃ T : Int32 → Int32 → Int32 → Int32, T = fun fe se pl => if fe = -1 then -1 else if w = 0 then bi (bt se n) else if bt se n = true then (if w = 1 then pl / nI 16 - pl / nI 16 / nI 32 * nI 32 else if w = 2 then pl - pl / nI 16 * nI 16 else pl / nI 512) else -1 := ⟨_, rfl⟩
  have ref : ∀ V : Int32, (∀ I' J', FND S (I2 14) c I2 J2 I' J' → V = T (I' 89 55) (I' 89 56) (I' 116 (4096 * n + (I' 120 n).toNatClampNeg))) → a_call aTab aMX (d + 8) m_Mo_who [.ref 89, .int (nI c), .int (nI n), .int (nI w)] (g2, I2, J2) (fun v3 h3 => ∃ i3 : Int32, v3 = some (.int i3) ∧ V = i3 ∧ INVx N X h3) := by
    intro V hV
    simp (disch := omega) only [e_Mo_who, b_Mo_who_0 hg2, b_Mo_who_10, b_Mo_who_13 hg2, b_Mo_who_18, b_Mo_who_21, b_Mo_who_30, b_Mo_who_33 hg2, c_isCast hg2 hB hM2, decide_eq_true qx, c_isFigure hg2 hB hM2, hf, c_inI, decide_eq_true qy, exI, exJ, exV, eq_self, true_and, and_true, true_or, or_true, if_true, if_false, not_true, not_false_eq_true, false_and, and_false, decide_true, decide_false, bi_T, bi_F, bi_0, bi_1, bi_z, bft, n10, n01, Nat.reduceEqDiff, Nat.reduceLT, Nat.reduceAdd, Nat.reduceMul, reduceCtorEq]
    refine c_findCells hg2 hM2 (fun _ I3 x1 x2 x3 => ?_) (fun z => absurd qt z)
    simp (disch := omega) only [b_Mo_who_37, b_Mo_who_42 hg2, exI, exJ, exV, eq_self, true_and, and_true, true_or, or_true, if_true, if_false, not_true, not_false_eq_true, false_and, and_false, decide_true, decide_false, bi_T, bi_F, bi_0, bi_1, bi_z, bft, n10, n01, Nat.reduceEqDiff, Nat.reduceLT, Nat.reduceAdd, Nat.reduceMul, reduceCtorEq]
    have i3 : INV N X ow2 S LF g2 I3 J2 := INV_md (INV_0 i2) (fun a k y1 y2 => x1 a k (by omega) (by omega) (by omega)) (fun _ _ _ _ => rfl)
    refine c_md i2 hc64 qt x2 x3 i3 (funext (fun j => by rw [x1 14 j (by decide) (by decide) (by omega), u2_n (by omega)])) mr (fun I4 J4 i4 fd => ?_)
    simp only [exV, true_and]
    have hv := hV I4 J4 fd
    rw [eT] at hv
    obtain ⟨-, -, t, t1, -, t3, t4⟩ := fd
    rw [b_Mo_who_47 hg2]
    by_cases z : I4 89 55 = -1
    · simp only [z, if_true] at hv
      simp (disch := omega) only [z, b_Mo_who_55, hv, exI, exJ, exV, eq_self, true_and, and_true, true_or, or_true, if_true, if_false, not_true, not_false_eq_true, false_and, and_false, decide_true, decide_false, bi_T, bi_F, bi_0, bi_1, bi_z, bft, n10, n01, Nat.reduceEqDiff, Nat.reduceLT, Nat.reduceAdd, Nat.reduceMul, reduceCtorEq]
      exact INVx_i i4
    simp only [z, if_false] at hv
    simp (disch := omega) only [z, b_Mo_who_57 hg2, b_Mo_who_65, c_is, exI, exJ, exV, eq_self, true_and, and_true, true_or, or_true, if_true, if_false, not_true, not_false_eq_true, false_and, and_false, decide_true, decide_false, bi_T, bi_F, bi_0, bi_1, bi_z, bft, n10, n01, Nat.reduceEqDiff, Nat.reduceLT, Nat.reduceAdd, Nat.reduceMul, reduceCtorEq]
    by_cases w0 : w = 0
    · simp only [w0, if_true] at hv
      cases zb : bt (I4 89 56) n with
      | false =>
        rw [zb] at hv
        simp (disch := omega) only [w0, b_Mo_who_71, b_Mo_who_80, b_Mo_who_81, hv, exI, exJ, exV, eq_self, true_and, and_true, true_or, or_true, if_true, if_false, not_true, not_false_eq_true, false_and, and_false, decide_true, decide_false, bi_T, bi_F, bi_0, bi_1, bi_z, bft, n10, n01, Nat.reduceEqDiff, Nat.reduceLT, Nat.reduceAdd, Nat.reduceMul, reduceCtorEq]
        exact INVx_i i4
      | true =>
        rw [zb] at hv
        simp (disch := omega) only [w0, b_Mo_who_71, b_Mo_who_76, b_Mo_who_81, hv, exI, exJ, exV, eq_self, true_and, and_true, true_or, or_true, if_true, if_false, not_true, not_false_eq_true, false_and, and_false, decide_true, decide_false, bi_T, bi_F, bi_0, bi_1, bi_z, bft, n10, n01, Nat.reduceEqDiff, Nat.reduceLT, Nat.reduceAdd, Nat.reduceMul, reduceCtorEq]
        exact INVx_i i4
    simp only [w0, if_false] at hv
    have w0' : ¬ nI w = nI 0 := by rw [neq (by omega) (by omega)]; exact w0
    cases zb : bt (I4 89 56) n with
    | false =>
      simp only [zb, exI, exJ, exV, eq_self, true_and, and_true, true_or, or_true, if_true, if_false, not_true, not_false_eq_true, false_and, and_false, decide_true, decide_false, bi_T, bi_F, bi_0, bi_1, bi_z, bft, n10, n01, Nat.reduceEqDiff, Nat.reduceLT, Nat.reduceAdd, Nat.reduceMul, reduceCtorEq] at hv
      simp (disch := omega) only [w0', b_Mo_who_82, b_Mo_who_107, b_Mo_who_108, b_Mo_who_115, b_Mo_who_154, hv, exI, exJ, exV, eq_self, true_and, and_true, true_or, or_true, if_true, if_false, not_true, not_false_eq_true, false_and, and_false, decide_true, decide_false, bi_T, bi_F, bi_0, bi_1, bi_z, bft, n10, n01, Nat.reduceEqDiff, Nat.reduceLT, Nat.reduceAdd, Nat.reduceMul, reduceCtorEq]
      exact INVx_i i4
    | true =>
      simp only [zb, exI, exJ, exV, eq_self, true_and, and_true, true_or, or_true, if_true, if_false, not_true, not_false_eq_true, false_and, and_false, decide_true, decide_false, bi_T, bi_F, bi_0, bi_1, bi_z, bft, n10, n01, Nat.reduceEqDiff, Nat.reduceLT, Nat.reduceAdd, Nat.reduceMul, reduceCtorEq] at hv
      rw [t3, bt_nI (by omega)] at zb
      obtain ⟨i, i1, i2', i3'⟩ := t4 n (by omega) zb
      rw [i2', ncl (by omega)] at hv
      simp (disch := omega) only [w0', b_Mo_who_82, b_Mo_who_87 hg2, b_Mo_who_108, i2', nmul, nadd, nvi, ncl, exI, exJ, exV, eq_self, true_and, and_true, true_or, or_true, if_true, if_false, not_true, not_false_eq_true, false_and, and_false, decide_true, decide_false, bi_T, bi_F, bi_0, bi_1, bi_z, bft, n10, n01, Nat.reduceEqDiff, Nat.reduceLT, Nat.reduceAdd, Nat.reduceMul, reduceCtorEq]
      rw [b_Mo_who_119]
      by_cases w1 : w = 1
      · simp only [w1, exI, exJ, exV, eq_self, true_and, and_true, true_or, or_true, if_true, if_false, not_true, not_false_eq_true, false_and, and_false, decide_true, decide_false, bi_T, bi_F, bi_0, bi_1, bi_z, bft, n10, n01, Nat.reduceEqDiff, Nat.reduceLT, Nat.reduceAdd, Nat.reduceMul, reduceCtorEq] at hv
        simp (disch := omega) only [w1, b_Mo_who_124, b_Mo_who_154, hv, exI, exJ, exV, eq_self, true_and, and_true, true_or, or_true, if_true, if_false, not_true, not_false_eq_true, false_and, and_false, decide_true, decide_false, bi_T, bi_F, bi_0, bi_1, bi_z, bft, n10, n01, Nat.reduceEqDiff, Nat.reduceLT, Nat.reduceAdd, Nat.reduceMul, reduceCtorEq]
        exact INVx_i i4
      have w1' : ¬ nI w = nI 1 := by rw [neq (by omega) (by omega)]; exact w1
      by_cases w2 : w = 2
      · simp only [w1, w2, exI, exJ, exV, eq_self, true_and, and_true, true_or, or_true, if_true, if_false, not_true, not_false_eq_true, false_and, and_false, decide_true, decide_false, bi_T, bi_F, bi_0, bi_1, bi_z, bft, n10, n01, Nat.reduceEqDiff, Nat.reduceLT, Nat.reduceAdd, Nat.reduceMul, reduceCtorEq] at hv
        have n21 : (nI 2 = nI 1) = False := eq_false (by decide)
        simp (disch := omega) only [w2, n21, b_Mo_who_135, b_Mo_who_140, b_Mo_who_154, hv, exI, exJ, exV, eq_self, true_and, and_true, true_or, or_true, if_true, if_false, not_true, not_false_eq_true, false_and, and_false, decide_true, decide_false, bi_T, bi_F, bi_0, bi_1, bi_z, bft, n10, n01, Nat.reduceEqDiff, Nat.reduceLT, Nat.reduceAdd, Nat.reduceMul, reduceCtorEq]
        exact INVx_i i4
      · simp only [w1, w2, exI, exJ, exV, eq_self, true_and, and_true, true_or, or_true, if_true, if_false, not_true, not_false_eq_true, false_and, and_false, decide_true, decide_false, bi_T, bi_F, bi_0, bi_1, bi_z, bft, n10, n01, Nat.reduceEqDiff, Nat.reduceLT, Nat.reduceAdd, Nat.reduceMul, reduceCtorEq] at hv
        have w2' : ¬ nI w = nI 2 := by rw [neq (by omega) (by omega)]; exact w2
        simp (disch := omega) only [w1', w2', b_Mo_who_135, b_Mo_who_148, b_Mo_who_154, hv, exI, exJ, exV, eq_self, true_and, and_true, true_or, or_true, if_true, if_false, not_true, not_false_eq_true, false_and, and_false, decide_true, decide_false, bi_T, bi_F, bi_0, bi_1, bi_z, bft, n10, n01, Nat.reduceEqDiff, Nat.reduceLT, Nat.reduceAdd, Nat.reduceMul, reduceCtorEq]
        exact INVx_i i4
  have rel : ∀ I' J', FND S (I2 14) c I2 J2 I' J' → T (I2 49 0) (I2 49 10) (I2 85 n) = T (I' 89 55) (I' 89 56) (I' 116 (4096 * n + (I' 120 n).toNatClampNeg)) := by
    intro I' J' fd
    obtain ⟨-, e0, t, t1, t2, t3, t4⟩ := fd
    rw [e0, t2, t3, eT]
    by_cases zb : bt (nI t) n = true
    · have zb2 := zb
      rw [bt_nI (by omega)] at zb2
      obtain ⟨i, i1, i2', i3'⟩ := t4 n (by omega) zb2
      rw [i3', i2', ncl (by omega)]
    · simp only [zb, exI, exJ, exV, eq_self, true_and, and_true, true_or, or_true, if_true, if_false, not_true, not_false_eq_true, false_and, and_false, decide_true, decide_false, bi_T, bi_F, bi_0, bi_1, bi_z, bft, n10, n01, Nat.reduceEqDiff, Nat.reduceLT, Nat.reduceAdd, Nat.reduceMul, reduceCtorEq]
  have fin : ∃ i : Int32, some (Value.int (T (I2 49 0) (I2 49 10) (I2 85 n))) = some (.int i) ∧ (g2, I2, J2).2.1 1 = X ∧ gN (g2, I2, J2).1 1 = N ∧ a_call aTab aMX (d + 8) m_Mo_who [.ref 89, .int (nI c), .int (nI n), .int (nI w)] (g2, I2, J2) (fun v3 h3 => ∃ i3 : Int32, v3 = some (.int i3) ∧ i = i3 ∧ INVx N X h3) := ⟨_, rfl, i2.2.1, i2.1.2.2.1, ref _ rel⟩
  simp only [exI] at fin
  clear ref rel
  rw [b_Cp_who_38 hg2]
  by_cases z : I2 49 0 = -1
  · simp only [eT, z, if_true] at fin
    simp (disch := omega) only [z, b_Cp_who_49, b_Cp_who_62, exI, exJ, exV, eq_self, true_and, and_true, true_or, or_true, if_true, if_false, not_true, not_false_eq_true, false_and, and_false, decide_true, decide_false, bi_T, bi_F, bi_0, bi_1, bi_z, bft, n10, n01, Nat.reduceEqDiff, Nat.reduceLT, Nat.reduceAdd, Nat.reduceMul, reduceCtorEq]
    exact fin
  simp only [eT, z, if_false] at fin
  simp (disch := omega) only [z, b_Cp_who_53 hg2, e_Maker_tellOf, b_Maker_tellOf_0 hg2, bt_sh, bi_1, exI, exJ, exV, eq_self, true_and, and_true, true_or, or_true, if_true, if_false, not_true, not_false_eq_true, false_and, and_false, decide_true, decide_false, bi_T, bi_F, bi_0, bi_1, bi_z, bft, n10, n01, Nat.reduceEqDiff, Nat.reduceLT, Nat.reduceAdd, Nat.reduceMul, reduceCtorEq]
  by_cases w0 : w = 0
  · simp only [w0, if_true] at fin
    cases zb : bt (I2 49 10) n with
    | false =>
      rw [zb] at fin
      simp (disch := omega) only [w0, b_Maker_tellOf_16, b_Maker_tellOf_17, b_Maker_tellOf_22, b_Maker_tellOf_30, b_Maker_tellOf_31, b_Cp_who_62, exI, exJ, exV, eq_self, true_and, and_true, true_or, or_true, if_true, if_false, not_true, not_false_eq_true, false_and, and_false, decide_true, decide_false, bi_T, bi_F, bi_0, bi_1, bi_z, bft, n10, n01, Nat.reduceEqDiff, Nat.reduceLT, Nat.reduceAdd, Nat.reduceMul, reduceCtorEq]
      exact fin
    | true =>
      rw [zb] at fin
      simp (disch := omega) only [w0, b_Maker_tellOf_12, b_Maker_tellOf_17, b_Maker_tellOf_22, b_Maker_tellOf_26, b_Maker_tellOf_31, b_Cp_who_62, exI, exJ, exV, eq_self, true_and, and_true, true_or, or_true, if_true, if_false, not_true, not_false_eq_true, false_and, and_false, decide_true, decide_false, bi_T, bi_F, bi_0, bi_1, bi_z, bft, n10, n01, Nat.reduceEqDiff, Nat.reduceLT, Nat.reduceAdd, Nat.reduceMul, reduceCtorEq]
      exact fin
  simp only [w0, if_false] at fin
  have w0' : ¬ nI w = nI 0 := by rw [neq (by omega) (by omega)]; exact w0
  cases zb : bt (I2 49 10) n with
  | false =>
    simp only [zb, exI, exJ, exV, eq_self, true_and, and_true, true_or, or_true, if_true, if_false, not_true, not_false_eq_true, false_and, and_false, decide_true, decide_false, bi_T, bi_F, bi_0, bi_1, bi_z, bft, n10, n01, Nat.reduceEqDiff, Nat.reduceLT, Nat.reduceAdd, Nat.reduceMul, reduceCtorEq] at fin
    simp (disch := omega) only [w0', b_Maker_tellOf_16, b_Maker_tellOf_17, b_Maker_tellOf_32, b_Maker_tellOf_36, b_Cp_who_62, exI, exJ, exV, eq_self, true_and, and_true, true_or, or_true, if_true, if_false, not_true, not_false_eq_true, false_and, and_false, decide_true, decide_false, bi_T, bi_F, bi_0, bi_1, bi_z, bft, n10, n01, Nat.reduceEqDiff, Nat.reduceLT, Nat.reduceAdd, Nat.reduceMul, reduceCtorEq]
    exact fin
  | true =>
    simp only [zb, exI, exJ, exV, eq_self, true_and, and_true, true_or, or_true, if_true, if_false, not_true, not_false_eq_true, false_and, and_false, decide_true, decide_false, bi_T, bi_F, bi_0, bi_1, bi_z, bft, n10, n01, Nat.reduceEqDiff, Nat.reduceLT, Nat.reduceAdd, Nat.reduceMul, reduceCtorEq] at fin
    simp (disch := omega) only [w0', b_Maker_tellOf_12, b_Maker_tellOf_17, b_Maker_tellOf_32, b_Maker_tellOf_38 hg2, nvi, ncl, exI, exJ, exV, eq_self, true_and, and_true, true_or, or_true, if_true, if_false, not_true, not_false_eq_true, false_and, and_false, decide_true, decide_false, bi_T, bi_F, bi_0, bi_1, bi_z, bft, n10, n01, Nat.reduceEqDiff, Nat.reduceLT, Nat.reduceAdd, Nat.reduceMul, reduceCtorEq]
    by_cases w1 : w = 1
    · simp only [w1, exI, exJ, exV, eq_self, true_and, and_true, true_or, or_true, if_true, if_false, not_true, not_false_eq_true, false_and, and_false, decide_true, decide_false, bi_T, bi_F, bi_0, bi_1, bi_z, bft, n10, n01, Nat.reduceEqDiff, Nat.reduceLT, Nat.reduceAdd, Nat.reduceMul, reduceCtorEq] at fin
      simp (disch := omega) only [w1, b_Maker_tellOf_51, b_Maker_tellOf_81, b_Cp_who_62, exI, exJ, exV, eq_self, true_and, and_true, true_or, or_true, if_true, if_false, not_true, not_false_eq_true, false_and, and_false, decide_true, decide_false, bi_T, bi_F, bi_0, bi_1, bi_z, bft, n10, n01, Nat.reduceEqDiff, Nat.reduceLT, Nat.reduceAdd, Nat.reduceMul, reduceCtorEq]
      exact fin
    have w1' : ¬ nI w = nI 1 := by rw [neq (by omega) (by omega)]; exact w1
    by_cases w2 : w = 2
    · have n21 : (nI 2 = nI 1) = False := eq_false (by decide)
      simp only [w1, w2, exI, exJ, exV, eq_self, true_and, and_true, true_or, or_true, if_true, if_false, not_true, not_false_eq_true, false_and, and_false, decide_true, decide_false, bi_T, bi_F, bi_0, bi_1, bi_z, bft, n10, n01, Nat.reduceEqDiff, Nat.reduceLT, Nat.reduceAdd, Nat.reduceMul, reduceCtorEq] at fin
      simp (disch := omega) only [w2, n21, b_Maker_tellOf_62, b_Maker_tellOf_67, b_Maker_tellOf_81, b_Cp_who_62, exI, exJ, exV, eq_self, true_and, and_true, true_or, or_true, if_true, if_false, not_true, not_false_eq_true, false_and, and_false, decide_true, decide_false, bi_T, bi_F, bi_0, bi_1, bi_z, bft, n10, n01, Nat.reduceEqDiff, Nat.reduceLT, Nat.reduceAdd, Nat.reduceMul, reduceCtorEq]
      exact fin
    · have w2' : ¬ nI w = nI 2 := by rw [neq (by omega) (by omega)]; exact w2
      simp only [w1, w2, exI, exJ, exV, eq_self, true_and, and_true, true_or, or_true, if_true, if_false, not_true, not_false_eq_true, false_and, and_false, decide_true, decide_false, bi_T, bi_F, bi_0, bi_1, bi_z, bft, n10, n01, Nat.reduceEqDiff, Nat.reduceLT, Nat.reduceAdd, Nat.reduceMul, reduceCtorEq] at fin
      simp (disch := omega) only [w1', w2', b_Maker_tellOf_62, b_Maker_tellOf_75, b_Maker_tellOf_81, b_Cp_who_62, exI, exJ, exV, eq_self, true_and, and_true, true_or, or_true, if_true, if_false, not_true, not_false_eq_true, false_and, and_false, decide_true, decide_false, bi_T, bi_F, bi_0, bi_1, bi_z, bft, n10, n01, Nat.reduceEqDiff, Nat.reduceLT, Nat.reduceAdd, Nat.reduceMul, reduceCtorEq]
      exact fin
end MDE
