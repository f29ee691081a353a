/-! ===== the reference goes over the shadows of a set ===== -/
theorem RLs_x {f : Nat} {L : List (Nat × Nat)} {I I' : Nat → Nat → Int32} {J J' : Nat → Nat → Int64} (h1 : XR I I') (h2 : XRJ J J') (h : RLs f L I J) : RLs f L I' J' := by
  unfold RLs at h ⊢
  rw [XR_a (a := 117) h1 (by decide) (by decide), XR_a (a := 116) h1 (by decide) (by decide), XRJ_a (a := 115) h2 (by decide)]
  exact h
theorem or_full {a b fu : Nat} (ha : sbs a fu) (hb : sbs b fu) : (a ||| b = fu) ↔ ∀ i, fu.testBit i = true → a.testBit i = true ∨ b.testBit i = true := by
  constructor
  · intro e i hi
    rw [← e, Nat.testBit_or, Bool.or_eq_true] at hi
    exact hi
  · intro h
    apply Nat.eq_of_testBit_eq
    intro i
    rw [Nat.testBit_or]
    apply Bool.eq_iff_iff.2
    rw [Bool.or_eq_true]
    exact ⟨fun w => w.elim (ha i) (hb i), h i⟩
section GOV
variable {d : Nat} {g : aG} {I : Nat → Nat → Int32} {J : Nat → Nat → Int64} {Q : aQ}
theorem go188 {z s fu i a j b : Nat} (ha : a < 2 ^ 64) (hb : b < 2 ^ 64) (h : a_wp aTab aMX d m_Mo_goOver 188 [.ref 89, .int (nI s), .int (nI z), aU, .long (lN fu), aU, .int (nI i), .long (lN a), aU, .int (nI j), .long (lN b), aU, aU, aU, aU, aU, aU, aU, aU] [.int (bi (bP (¬ sbs a b ∧ ¬ sbs b a)))] (g, I, J) Q) : a_wp aTab aMX d m_Mo_goOver 153 [.ref 89, .int (nI s), .int (nI z), aU, .long (lN fu), aU, .int (nI i), .long (lN a), aU, .int (nI j), aU, aU, aU, aU, aU, aU, aU, aU, aU] [.long (lN b)] (g, I, J) Q := by
  rw [b_Mo_goOver_153, ldif]
  by_cases q1 : sbs a b
  · rw [if_pos (by rw [dif0 ha]; exact q1), b_Mo_goOver_187]
    rw [bP_f.2 (fun w => w.1 q1)] at h
    exact h
  · rw [if_neg (by rw [dif0 ha]; exact q1), b_Mo_goOver_169, ldif]
    by_cases q2 : sbs b a
    · rw [if_pos (by rw [dif0 hb]; exact q2), b_Mo_goOver_187]
      rw [bP_f.2 (fun w => w.2 q2)] at h
      exact h
    · rw [if_neg (by rw [dif0 hb]; exact q2), b_Mo_goOver_183]
      rw [bP_t.2 ⟨q1, q2⟩] at h
      exact h
theorem go1 (hg : Geo g) {s W fu : Nat} {L : List (Nat × Nat)} (hs : s < 64) (e : sz s = 1) (hT : TR s (I 121)) (hR : RLs (th s 0) L I J) (hok : mOk L) (hn : L.length ≤ 1632) (hfu : fu < 2 ^ 64) (hW : J 89 58 = lN (min 1000000000 W)) (hQ : ∀ I' J', XR I I' → XRJ J J' → J' 89 58 = lN (min 1000000000 (W + ct1 fu (LM L) L.length)) → RSr (ct1 fu (LM L) L.length ≠ 0) (fun X => ∃ a, fw1 fu (LM L) L.length a ∧ CHt s a 0 0 X) I I' (sz s) s → Q none (g, I', J')) : ∀ v3 v7 v9 v10 v12 v13 v15 v16 v18, a_wp aTab aMX (d + 2) m_Mo_goOver 66 [.ref 89, .int (nI s), .int (nI (sz s)), v3, .long (lN fu), aU, .int (nI 0), v7, aU, v9, v10, aU, v12, v13, aU, v15, v16, aU, v18] [] (g, I, J) Q := by
  have t0 := th_s hs (show 0 < sz s by omega)
  have q0 := t0.1
  refine dn (P := fun i => ∀ I2 J2, XR I I2 → XRJ J J2 → J2 89 58 = lN (min 1000000000 (W + ct1 fu (LM L) i)) → RSr (ct1 fu (LM L) i ≠ 0) (fun X => ∃ a, fw1 fu (LM L) i a ∧ CHt s a 0 0 X) I I2 (sz s) s → ∀ v3 v7 v9 v10 v12 v13 v15 v16 v18, a_wp aTab aMX (d + 2) m_Mo_goOver 66 [.ref 89, .int (nI s), .int (nI (sz s)), v3, .long (lN fu), aU, .int (nI i), v7, aU, v9, v10, aU, v12, v13, aU, v15, v16, aU, v18] [] (g, I2, J2) Q) (n := L.length) ?_ ?_ 0 (by omega) I J (XR_r I) (XRJ_r J) hW (RSr_0 (fun w => w rfl))
  · intro I2 J2 hX hXJ h9 hRs v3 v7 v9 v10 v12 v13 v15 v16 v18
    have T2 : TR s (I2 121) := by rw [XR_a hX (by decide) (by decide)]; exact hT
    have R2 := RLs_x hX hXJ hR
    have e0 := T2 0 (by omega)
    rw [b_Mo_goOver_66 hg]
    simp (disch := omega) only [b_Mo_goOver_375, ↓reduceIte, nadd, nmul, nsub, nlt, neq, ncl, nvi, ndiv, nrem, exI, exJ, exV, eq_self, true_and, and_true, true_or, or_true, if_true, if_false, not_true, not_false_eq_true, false_and, and_false, decide_true, decide_false, bi_T, bi_F, bi_0, bi_1, bi_z, bft, n10, n01, Nat.reduceEqDiff, Nat.reduceLT, Nat.reduceAdd, Nat.reduceMul, reduceCtorEq, e0, q0, R2.1, Nat.lt_irrefl]
    exact hQ I2 J2 hX hXJ h9 hRs
  · intro i hi ih I2 J2 hX hXJ h9 hRs v3 v7 v9 v10 v12 v13 v15 v16 v18
    have T2 : TR s (I2 121) := by rw [XR_a hX (by decide) (by decide)]; exact hT
    have R2 := RLs_x hX hXJ hR
    have e0 := T2 0 (by omega)
    rw [b_Mo_goOver_66 hg]
    simp (disch := omega) only [↓reduceIte, nadd, nmul, nsub, nlt, neq, ncl, nvi, ndiv, nrem, exI, exJ, exV, eq_self, true_and, and_true, true_or, or_true, if_true, if_false, not_true, not_false_eq_true, false_and, and_false, decide_true, decide_false, bi_T, bi_F, bi_0, bi_1, bi_z, bft, n10, n01, Nat.reduceEqDiff, Nat.reduceLT, Nat.reduceAdd, Nat.reduceMul, reduceCtorEq, e0, q0, R2.1, hi]
    rw [b_Mo_goOver_82 hg, c_mMaskAt hg hs (by omega) (by omega) T2 R2 hi hn]
    simp only [exJ]
    rw [b_Mo_goOver_89, e, if_pos rfl, b_Mo_goOver_96, rLe (hok i hi) hfu]
    have es : ct1 fu (LM L) (i + 1) = ct1 fu (LM L) i + (decide (LM L i = fu)).toNat := by
      show ct1 fu (LM L) i + (if decide (LM L i = fu) = true then 1 else 0) = _
      cases decide (LM L i = fu) <;> rfl
    have call : a_wp aTab aMX (d + 2) m_Mo_goOver 111 [.ref 89, .int (nI s), .int (nI 1), aU, .long (lN fu), aU, .int (nI i), .long (lN (LM L i)), aU, aU, aU, aU, aU, aU, aU, aU, aU, aU, aU] [.int (bi (decide (LM L i = fu))), .int (nI s), .ref 89] (g, I2, J2) Q := by
      rw [b_Mo_goOver_111 hg]
      refine c_mTake (b := 0) (c := 0) hg hs (by omega) (by omega) T2 h9 ?_
      intro I3 J3 hX3 hXJ3 h93 hR3
      simp only [exV, true_and]
      rw [b_Mo_goOver_118]
      simp (disch := omega) only [b_Mo_goOver_121, b_Mo_goOver_142, b_Mo_goOver_143, b_Mo_goOver_369, ↓reduceIte, nadd, nmul, nsub, nlt, neq, ncl, nvi, ndiv, nrem, exI, exJ, exV, eq_self, true_and, and_true, true_or, or_true, if_true, if_false, not_true, not_false_eq_true, false_and, and_false, decide_true, decide_false, bi_T, bi_F, bi_0, bi_1, bi_z, bft, n10, n01, Nat.reduceEqDiff, Nat.reduceLT, Nat.reduceAdd, Nat.reduceMul, reduceCtorEq, Nat.lt_irrefl]
      rw [show nI 1 = nI (sz s) by rw [e]]
      refine ih I3 J3 (XR_t hX hX3) (XRJ_t hXJ hXJ3) (by rw [es, ← Nat.add_assoc]; exact h93) ?_ _ _ _ _ _ _ _ _ _
      rw [es]
      refine RSr_scan (by omega) hRs hR3 ?_ ?_
      · rintro X _ ⟨a, ⟨w1, w2⟩, w3⟩
        exact ⟨a, ⟨by omega, w2⟩, w3⟩
      · intro X m0 x0 w
        refine ⟨i, ⟨by omega, ?_, fun i' hi' => of_decide_eq_false (fb_ct_zero.1 m0 i' hi')⟩, w⟩
        by_cases y : LM L i = fu
        · exact y
        · rw [decide_eq_false y] at x0; exact absurd rfl x0
    by_cases y : LM L i = fu
    · rw [if_pos y, b_Mo_goOver_106]
      rw [decide_eq_true y] at call
      exact call
    · rw [if_neg y, b_Mo_goOver_110]
      rw [decide_eq_false y] at call
      exact call
theorem go2 (hg : Geo g) {s W fu : Nat} {L M : List (Nat × Nat)} (hs : s < 64) (e : sz s = 2) (hT : TR s (I 121)) (hR : RLs (th s 0) L I J) (hok : mOk L) (hn : L.length ≤ 1632) (hLf : ∀ i, i < L.length → sbs (LM L i) fu) (hR' : RLs (th s 1) M I J) (hok' : mOk M) (hn' : M.length ≤ 1632) (hMf : ∀ i, i < M.length → sbs (LM M i) fu) (hfu : fu < 2 ^ 64) (hW : J 89 58 = lN (min 1000000000 W)) (hQ : ∀ I' J', XR I I' → XRJ J J' → J' 89 58 = lN (min 1000000000 (W + ct2 fu (LM L) (LM M) L.length M.length)) → RSr (ct2 fu (LM L) (LM M) L.length M.length ≠ 0) (fun X => ∃ a b, fw2 fu (LM L) (LM M) L.length M.length a b ∧ CHt s a b 0 X) I I' (sz s) s → Q none (g, I', J')) : ∀ v3 v7 v9 v10 v12 v13 v15 v16 v18, a_wp aTab aMX (d + 2) m_Mo_goOver 66 [.ref 89, .int (nI s), .int (nI (sz s)), v3, .long (lN fu), aU, .int (nI 0), v7, aU, v9, v10, aU, v12, v13, aU, v15, v16, aU, v18] [] (g, I, J) Q := by
  have t0 := th_s hs (show 0 < sz s by omega)
  have q0 := t0.1
  have t1 := th_s hs (show 1 < sz s by omega)
  have q1 := t1.1
  refine dn (P := fun i => ∀ I2 J2, XR I I2 → XRJ J J2 → J2 89 58 = lN (min 1000000000 (W + ct2 fu (LM L) (LM M) i M.length)) → RSr (ct2 fu (LM L) (LM M) i M.length ≠ 0) (fun X => ∃ a b, fw2 fu (LM L) (LM M) i M.length a b ∧ CHt s a b 0 X) I I2 (sz s) s → ∀ v3 v7 v9 v10 v12 v13 v15 v16 v18, a_wp aTab aMX (d + 2) m_Mo_goOver 66 [.ref 89, .int (nI s), .int (nI (sz s)), v3, .long (lN fu), aU, .int (nI i), v7, aU, v9, v10, aU, v12, v13, aU, v15, v16, aU, v18] [] (g, I2, J2) Q) (n := L.length) ?_ ?_ 0 (by omega) I J (XR_r I) (XRJ_r J) hW (RSr_0 (fun w => w rfl))
  · intro I2 J2 hX hXJ h9 hRs v3 v7 v9 v10 v12 v13 v15 v16 v18
    have T2 : TR s (I2 121) := by rw [XR_a hX (by decide) (by decide)]; exact hT
    have R2 := RLs_x hX hXJ hR
    have e0 := T2 0 (by omega)
    rw [b_Mo_goOver_66 hg]
    simp (disch := omega) only [b_Mo_goOver_375, ↓reduceIte, nadd, nmul, nsub, nlt, neq, ncl, nvi, ndiv, nrem, exI, exJ, exV, eq_self, true_and, and_true, true_or, or_true, if_true, if_false, not_true, not_false_eq_true, false_and, and_false, decide_true, decide_false, bi_T, bi_F, bi_0, bi_1, bi_z, bft, n10, n01, Nat.reduceEqDiff, Nat.reduceLT, Nat.reduceAdd, Nat.reduceMul, reduceCtorEq, e0, q0, R2.1, Nat.lt_irrefl]
    exact hQ I2 J2 hX hXJ h9 hRs
  · intro i hi ih I2 J2 hX hXJ h9 hRs v3 v7 v9 v10 v12 v13 v15 v16 v18
    have T2 : TR s (I2 121) := by rw [XR_a hX (by decide) (by decide)]; exact hT
    have R2 := RLs_x hX hXJ hR
    have e0 := T2 0 (by omega)
    rw [b_Mo_goOver_66 hg]
    simp (disch := omega) only [↓reduceIte, nadd, nmul, nsub, nlt, neq, ncl, nvi, ndiv, nrem, exI, exJ, exV, eq_self, true_and, and_true, true_or, or_true, if_true, if_false, not_true, not_false_eq_true, false_and, and_false, decide_true, decide_false, bi_T, bi_F, bi_0, bi_1, bi_z, bft, n10, n01, Nat.reduceEqDiff, Nat.reduceLT, Nat.reduceAdd, Nat.reduceMul, reduceCtorEq, e0, q0, R2.1, hi]
    rw [b_Mo_goOver_82 hg, c_mMaskAt hg hs (by omega) (by omega) T2 R2 hi hn]
    simp only [exJ]
    rw [b_Mo_goOver_89, e, if_neg (by decide), b_Mo_goOver_118]
    obtain ⟨p, hp⟩ : ∃ p : Nat → Bool, p = fun j => bP (gd2 fu (LM L i) (LM M j)) := ⟨_, rfl⟩
    have es : ct2 fu (LM L) (LM M) (i + 1) M.length = ct2 fu (LM L) (LM M) i M.length + fb_ct p M.length := by rw [hp]; rfl
    refine dn (P := fun j => ∀ I3 J3, XR I2 I3 → XRJ J2 J3 → J3 89 58 = lN (min 1000000000 (W + ct2 fu (LM L) (LM M) i M.length + fb_ct p j)) → RSr (fb_ct p j ≠ 0) (fun X => ∃ b, b < j ∧ gd2 fu (LM L i) (LM M b) ∧ (∀ b', b' < b → ¬ gd2 fu (LM L i) (LM M b')) ∧ CHt s i b 0 X) I2 I3 (sz s) s → ∀ v3 v10 v12 v13 v15 v16 v18, a_wp aTab aMX (d + 2) m_Mo_goOver 121 [.ref 89, .int (nI s), .int (nI 2), v3, .long (lN fu), aU, .int (nI i), .long (lN (LM L i)), aU, .int (nI j), v10, aU, v12, v13, aU, v15, v16, aU, v18] [] (g, I3, J3) Q) (n := M.length) ?_ ?_ 0 (by omega) I2 J2 (XR_r I2) (XRJ_r J2) h9 (RSr_0 (fun w => w rfl)) _ _ _ _ _ _ _
    · intro I3 J3 hX3 hXJ3 h93 hR3 v3 v10 v12 v13 v15 v16 v18
      have X3 := XR_t hX hX3
      have XJ3 := XRJ_t hXJ hXJ3
      have T3 : TR s (I3 121) := by rw [XR_a X3 (by decide) (by decide)]; exact hT
      have M3 := RLs_x X3 XJ3 hR'
      have e1 := T3 1 (by omega)
      simp (disch := omega) only [b_Mo_goOver_121, b_Mo_goOver_128 hg, b_Mo_goOver_143, b_Mo_goOver_369, ↓reduceIte, nadd, nmul, nsub, nlt, neq, ncl, nvi, ndiv, nrem, exI, exJ, exV, eq_self, true_and, and_true, true_or, or_true, if_true, if_false, not_true, not_false_eq_true, false_and, and_false, decide_true, decide_false, bi_T, bi_F, bi_0, bi_1, bi_z, bft, n10, n01, Nat.reduceEqDiff, Nat.reduceLT, Nat.reduceAdd, Nat.reduceMul, reduceCtorEq, e1, q1, M3.1, Nat.lt_irrefl]
      rw [show nI 2 = nI (sz s) by rw [e]]
      refine ih I3 J3 X3 XJ3 (by rw [es, ← Nat.add_assoc]; exact h93) ?_ _ _ _ _ _ _ _ _ _
      rw [es]
      refine RSr_scan (by omega) hRs hR3 ?_ ?_
      · rintro X _ ⟨a, b, ⟨w1, w2⟩, w3⟩
        exact ⟨a, b, ⟨by omega, w2⟩, w3⟩
      · rintro X m0 _ ⟨b, w1, w2, w3, w4⟩
        exact ⟨i, b, ⟨by omega, w1, w2, fun i' hi' => ct2_z m0 i' hi', w3⟩, w4⟩
    · intro j hj ihj I3 J3 hX3 hXJ3 h93 hR3 v3 v10 v12 v13 v15 v16 v18
      have X3 := XR_t hX hX3
      have XJ3 := XRJ_t hXJ hXJ3
      have T3 : TR s (I3 121) := by rw [XR_a X3 (by decide) (by decide)]; exact hT
      have M3 := RLs_x X3 XJ3 hR'
      have e1 := T3 1 (by omega)
      rw [b_Mo_goOver_121]
      simp (disch := omega) only [b_Mo_goOver_128 hg, b_Mo_goOver_143, ↓reduceIte, nadd, nmul, nsub, nlt, neq, ncl, nvi, ndiv, nrem, exI, exJ, exV, eq_self, true_and, and_true, true_or, or_true, if_true, if_false, not_true, not_false_eq_true, false_and, and_false, decide_true, decide_false, bi_T, bi_F, bi_0, bi_1, bi_z, bft, n10, n01, Nat.reduceEqDiff, Nat.reduceLT, Nat.reduceAdd, Nat.reduceMul, reduceCtorEq, e1, q1, M3.1, hj]
      rw [b_Mo_goOver_146 hg, c_mMaskAt hg hs (by omega) (by omega) T3 M3 hj hn']
      simp only [exJ]
      refine go188 (hok i hi) (hok' j hj) ?_
      have call : a_wp aTab aMX (d + 2) m_Mo_goOver 218 [.ref 89, .int (nI s), .int (nI 2), aU, .long (lN fu), aU, .int (nI i), .long (lN (LM L i)), aU, .int (nI j), .long (lN (LM M j)), aU, .int (bi (bP (¬ sbs (LM L i) (LM M j) ∧ ¬ sbs (LM M j) (LM L i)))), aU, aU, aU, aU, aU, aU] [.int (bi (p j)), .int (nI s), .ref 89] (g, I3, J3) Q := by
        rw [b_Mo_goOver_218 hg]
        refine c_mTake (c := 0) hg hs (by omega) (by omega) T3 h93 ?_
        intro I4 J4 hX4 hXJ4 h94 hR4
        simp only [exV, true_and]
        rw [b_Mo_goOver_226]
        simp (disch := omega) only [b_Mo_goOver_243, b_Mo_goOver_276, b_Mo_goOver_277, b_Mo_goOver_363, ↓reduceIte, nadd, nmul, nsub, nlt, neq, ncl, nvi, ndiv, nrem, exI, exJ, exV, eq_self, true_and, and_true, true_or, or_true, if_true, if_false, not_true, not_false_eq_true, false_and, and_false, decide_true, decide_false, bi_T, bi_F, bi_0, bi_1, bi_z, bft, n10, n01, Nat.reduceEqDiff, Nat.reduceLT, Nat.reduceAdd, Nat.reduceMul, reduceCtorEq, Nat.lt_irrefl]
        have es2 : fb_ct p (j + 1) = fb_ct p j + (p j).toNat := by
          rw [fb_ct_succ]
          cases p j <;> rfl
        refine ihj I4 J4 (XR_t hX3 hX4) (XRJ_t hXJ3 hXJ4) (by rw [es2, ← Nat.add_assoc]; exact h94) ?_ _ _ _ _ _ _ _
        rw [es2]
        refine RSr_scan (by omega) hR3 hR4 ?_ ?_
        · rintro X _ ⟨b, w1, w2⟩
          exact ⟨b, by omega, w2⟩
        · intro X m0 x0 w
          have hpj : p j = true := by
            cases y : p j
            · rw [y] at x0; exact absurd rfl x0
            · rfl
          refine ⟨j, by omega, ?_, fun b' hb' => ?_, w⟩
          · rw [hp] at hpj; exact bP_t.1 hpj
          · have := fb_ct_zero.1 m0 b' hb'
            rw [hp] at this
            exact bP_f.1 this
      have hpj : p j = bP (gd2 fu (LM L i) (LM M j)) := by rw [hp]
      rw [hpj] at call
      rw [b_Mo_goOver_188]
      simp only [exI, exJ, exV, eq_self, true_and, and_true, true_or, or_true, if_true, if_false, not_true, not_false_eq_true, false_and, and_false, decide_true, decide_false, bi_T, bi_F, bi_0, bi_1, bi_z, bft, n10, n01, Nat.reduceEqDiff, Nat.reduceLT, Nat.reduceAdd, Nat.reduceMul, reduceCtorEq]
      rw [b_Mo_goOver_195]
      by_cases qa : ¬ sbs (LM L i) (LM M j) ∧ ¬ sbs (LM M j) (LM L i)
      · rw [bP_t.2 qa] at call ⊢
        rw [if_neg (by decide), b_Mo_goOver_202, fb_orL, rLe (Nat.or_lt_two_pow (hok i hi) (hok' j hj)) hfu]
        by_cases qo : LM L i ||| LM M j = fu
        · rw [if_pos qo, b_Mo_goOver_213]
          rw [bP_t.2 ⟨(or_full (hLf i hi) (hMf j hj)).1 qo, qa.1, qa.2⟩] at call
          exact call
        · rw [if_neg qo, b_Mo_goOver_217]
          rw [bP_f.2 (fun w => qo ((or_full (hLf i hi) (hMf j hj)).2 w.1))] at call
          exact call
      · rw [bP_f.2 qa] at call ⊢
        rw [if_pos bi_F, b_Mo_goOver_217]
        rw [bP_f.2 (fun w => qa ⟨w.2.1, w.2.2⟩)] at call
        exact call
theorem gd3_no1 {fu a b c : Nat} (h : sbs a b) : ¬ gd3 fu a b c := fun w => w.2.1 (fun i hi => by rw [Nat.testBit_or, h i hi]; rfl)
theorem gd3_no2 {fu a b c : Nat} (h : sbs b a) : ¬ gd3 fu a b c := fun w => w.2.2.1 (fun i hi => by rw [Nat.testBit_or, h i hi]; rfl)
theorem gd3_left {fu a b c : Nat} (hfu : fu < 2 ^ 64) (hl : ¬ sbs fu (a ||| b)) : gd3 fu a b c ↔ sbs (dif fu (a ||| b)) c ∧ ¬ sbs a (b ||| c) ∧ ¬ sbs b (a ||| c) := by
  rw [sbs_dif hfu]
  constructor
  · rintro ⟨h1, h2, h3, _⟩
    refine ⟨fun i hi => ?_, h2, h3⟩
    rw [Nat.testBit_or, Nat.testBit_or]
    rcases h1 i hi with w | w | w <;> simp [w]
  · rintro ⟨h1, h2, h3⟩
    refine ⟨fun i hi => ?_, h2, h3, fun w => hl (fun i hi => ?_)⟩
    · have := h1 i hi
      rw [Nat.testBit_or, Nat.testBit_or, Bool.or_eq_true, Bool.or_eq_true] at this
      rcases this with (w | w) | w
      · exact Or.inl w
      · exact Or.inr (Or.inl w)
      · exact Or.inr (Or.inr w)
    · have := h1 i hi
      rw [Nat.testBit_or, Bool.or_eq_true] at this
      exact this.elim id (w i)
theorem go3 (hg : Geo g) {s W fu : Nat} {L M N : List (Nat × Nat)} (hs : s < 64) (e : sz s = 3) (hT : TR s (I 121)) (hR : RLs (th s 0) L I J) (hok : mOk L) (hn : L.length ≤ 1632) (hR' : RLs (th s 1) M I J) (hok' : mOk M) (hn' : M.length ≤ 1632) (hR2 : RLs (th s 2) N I J) (hok2 : mOk N) (hn2 : N.length ≤ 1632) (hNf : ∀ i, i < N.length → sbs (LM N i) fu) (hfu : fu < 2 ^ 64) (hW : J 89 58 = lN (min 1000000000 W)) (hQ : ∀ I' J', XR I I' → XRJ J J' → J' 89 58 = lN (min 1000000000 (W + ct3 fu (LM L) (LM M) (LM N) L.length M.length N.length)) → RSr (ct3 fu (LM L) (LM M) (LM N) L.length M.length N.length ≠ 0) (fun X => ∃ a b c, fw3 fu (LM L) (LM M) (LM N) L.length M.length N.length a b c ∧ CHt s a b c X) I I' (sz s) s → Q none (g, I', J')) : ∀ v3 v7 v9 v10 v12 v13 v15 v16 v18, a_wp aTab aMX (d + 2) m_Mo_goOver 66 [.ref 89, .int (nI s), .int (nI (sz s)), v3, .long (lN fu), aU, .int (nI 0), v7, aU, v9, v10, aU, v12, v13, aU, v15, v16, aU, v18] [] (g, I, J) Q := by
  have t0 := th_s hs (show 0 < sz s by omega)
  have q0 := t0.1
  have t1 := th_s hs (show 1 < sz s by omega)
  have q1 := t1.1
  have t2 := th_s hs (show 2 < sz s by omega)
  have q2 := t2.1
  refine dn (P := fun i => ∀ I2 J2, XR I I2 → XRJ J J2 → J2 89 58 = lN (min 1000000000 (W + ct3 fu (LM L) (LM M) (LM N) i M.length N.length)) → RSr (ct3 fu (LM L) (LM M) (LM N) i M.length N.length ≠ 0) (fun X => ∃ a b c, fw3 fu (LM L) (LM M) (LM N) i M.length N.length a b c ∧ CHt s a b c X) I I2 (sz s) s → ∀ v3 v7 v9 v10 v12 v13 v15 v16 v18, a_wp aTab aMX (d + 2) m_Mo_goOver 66 [.ref 89, .int (nI s), .int (nI (sz s)), v3, .long (lN fu), aU, .int (nI i), v7, aU, v9, v10, aU, v12, v13, aU, v15, v16, aU, v18] [] (g, I2, J2) Q) (n := L.length) ?_ ?_ 0 (by omega) I J (XR_r I) (XRJ_r J) hW (RSr_0 (fun w => w rfl))
  · intro I2 J2 hX hXJ h9 hRs v3 v7 v9 v10 v12 v13 v15 v16 v18
    have T2 : TR s (I2 121) := by rw [XR_a hX (by decide) (by decide)]; exact hT
    have R2 := RLs_x hX hXJ hR
    have e0 := T2 0 (by omega)
    rw [b_Mo_goOver_66 hg]
    simp (disch := omega) only [b_Mo_goOver_375, ↓reduceIte, nadd, nmul, nsub, nlt, neq, ncl, nvi, ndiv, nrem, exI, exJ, exV, eq_self, true_and, and_true, true_or, or_true, if_true, if_false, not_true, not_false_eq_true, false_and, and_false, decide_true, decide_false, bi_T, bi_F, bi_0, bi_1, bi_z, bft, n10, n01, Nat.reduceEqDiff, Nat.reduceLT, Nat.reduceAdd, Nat.reduceMul, reduceCtorEq, e0, q0, R2.1, Nat.lt_irrefl]
    exact hQ I2 J2 hX hXJ h9 hRs
  · intro i hi ih I2 J2 hX hXJ h9 hRs v3 v7 v9 v10 v12 v13 v15 v16 v18
    have T2 : TR s (I2 121) := by rw [XR_a hX (by decide) (by decide)]; exact hT
    have R2 := RLs_x hX hXJ hR
    have e0 := T2 0 (by omega)
    rw [b_Mo_goOver_66 hg]
    simp (disch := omega) only [↓reduceIte, nadd, nmul, nsub, nlt, neq, ncl, nvi, ndiv, nrem, exI, exJ, exV, eq_self, true_and, and_true, true_or, or_true, if_true, if_false, not_true, not_false_eq_true, false_and, and_false, decide_true, decide_false, bi_T, bi_F, bi_0, bi_1, bi_z, bft, n10, n01, Nat.reduceEqDiff, Nat.reduceLT, Nat.reduceAdd, Nat.reduceMul, reduceCtorEq, e0, q0, R2.1, hi]
    rw [b_Mo_goOver_82 hg, c_mMaskAt hg hs (by omega) (by omega) T2 R2 hi hn]
    simp only [exJ]
    rw [b_Mo_goOver_89, e, if_neg (by decide), b_Mo_goOver_118]
    have es : ct3 fu (LM L) (LM M) (LM N) (i + 1) M.length N.length = ct3 fu (LM L) (LM M) (LM N) i M.length N.length + row3 fu (LM L i) (LM M) (LM N) M.length N.length := rfl
    refine dn (P := fun j => ∀ I3 J3, XR I2 I3 → XRJ J2 J3 → J3 89 58 = lN (min 1000000000 (W + ct3 fu (LM L) (LM M) (LM N) i M.length N.length + row3 fu (LM L i) (LM M) (LM N) j N.length)) → RSr (row3 fu (LM L i) (LM M) (LM N) j N.length ≠ 0) (fun X => ∃ b c, b < j ∧ c < N.length ∧ gd3 fu (LM L i) (LM M b) (LM N c) ∧ (∀ b' c', c' < N.length → gd3 fu (LM L i) (LM M b') (LM N c') → lexle b c b' c') ∧ CHt s i b c X) I2 I3 (sz s) s → ∀ v3 v10 v12 v13 v15 v16 v18, a_wp aTab aMX (d + 2) m_Mo_goOver 121 [.ref 89, .int (nI s), .int (nI 3), v3, .long (lN fu), aU, .int (nI i), .long (lN (LM L i)), aU, .int (nI j), v10, aU, v12, v13, aU, v15, v16, aU, v18] [] (g, I3, J3) Q) (n := M.length) ?_ ?_ 0 (by omega) I2 J2 (XR_r I2) (XRJ_r J2) h9 (RSr_0 (fun w => w rfl)) _ _ _ _ _ _ _
    · intro I3 J3 hX3 hXJ3 h93 hR3 v3 v10 v12 v13 v15 v16 v18
      have X3 := XR_t hX hX3
      have XJ3 := XRJ_t hXJ hXJ3
      have T3 : TR s (I3 121) := by rw [XR_a X3 (by decide) (by decide)]; exact hT
      have M3 := RLs_x X3 XJ3 hR'
      have e1 := T3 1 (by omega)
      simp (disch := omega) only [b_Mo_goOver_121, b_Mo_goOver_128 hg, b_Mo_goOver_143, b_Mo_goOver_369, ↓reduceIte, nadd, nmul, nsub, nlt, neq, ncl, nvi, ndiv, nrem, exI, exJ, exV, eq_self, true_and, and_true, true_or, or_true, if_true, if_false, not_true, not_false_eq_true, false_and, and_false, decide_true, decide_false, bi_T, bi_F, bi_0, bi_1, bi_z, bft, n10, n01, Nat.reduceEqDiff, Nat.reduceLT, Nat.reduceAdd, Nat.reduceMul, reduceCtorEq, e1, q1, M3.1, Nat.lt_irrefl]
      rw [show nI 3 = nI (sz s) by rw [e]]
      refine ih I3 J3 X3 XJ3 (by rw [es, ← Nat.add_assoc]; exact h93) ?_ _ _ _ _ _ _ _ _ _
      rw [es]
      refine RSr_scan (by omega) hRs hR3 ?_ ?_
      · rintro X _ ⟨a, b, c, ⟨w1, w2⟩, w3⟩
        exact ⟨a, b, c, ⟨by omega, w2⟩, w3⟩
      · rintro X m0 _ ⟨b, c, w1, w2, w3, w4, w5⟩
        exact ⟨i, b, c, ⟨by omega, w1, w2, w3, fun i' hi' j' hj' k' hk' => row3_n (fb_sm_zero m0 i' hi') j' k' hj' hk', fun j' k' _ hk' => w4 j' k' hk'⟩, w5⟩
    · intro j hj ihj I3 J3 hX3 hXJ3 h93 hR3 v3 v10 v12 v13 v15 v16 v18
      have X3 := XR_t hX hX3
      have XJ3 := XRJ_t hXJ hXJ3
      have T3 : TR s (I3 121) := by rw [XR_a X3 (by decide) (by decide)]; exact hT
      have M3 := RLs_x X3 XJ3 hR'
      have e1 := T3 1 (by omega)
      rw [b_Mo_goOver_121]
      simp (disch := omega) only [b_Mo_goOver_128 hg, b_Mo_goOver_143, ↓reduceIte, nadd, nmul, nsub, nlt, neq, ncl, nvi, ndiv, nrem, exI, exJ, exV, eq_self, true_and, and_true, true_or, or_true, if_true, if_false, not_true, not_false_eq_true, false_and, and_false, decide_true, decide_false, bi_T, bi_F, bi_0, bi_1, bi_z, bft, n10, n01, Nat.reduceEqDiff, Nat.reduceLT, Nat.reduceAdd, Nat.reduceMul, reduceCtorEq, e1, q1, M3.1, hj]
      rw [b_Mo_goOver_146 hg, c_mMaskAt hg hs (by omega) (by omega) T3 M3 hj hn']
      simp only [exJ]
      refine go188 (hok i hi) (hok' j hj) ?_
      obtain ⟨p, hp⟩ : ∃ p : Nat → Bool, p = fun k => bP (gd3 fu (LM L i) (LM M j) (LM N k)) := ⟨_, rfl⟩
      have es2 : row3 fu (LM L i) (LM M) (LM N) (j + 1) N.length = row3 fu (LM L i) (LM M) (LM N) j N.length + fb_ct p N.length := by rw [hp]; rfl
      have hab : LM L i ||| LM M j < 2 ^ 64 := Nat.or_lt_two_pow (hok i hi) (hok' j hj)
      -- behind the third loop
      have out : ∀ I4 J4, XR I3 I4 → XRJ J3 J4 → J4 89 58 = lN (min 1000000000 (W + ct3 fu (LM L) (LM M) (LM N) i M.length N.length + row3 fu (LM L i) (LM M) (LM N) j N.length + fb_ct p N.length)) → RSr (fb_ct p N.length ≠ 0) (fun X => ∃ c, c < N.length ∧ gd3 fu (LM L i) (LM M j) (LM N c) ∧ (∀ c', c' < c → ¬ gd3 fu (LM L i) (LM M j) (LM N c')) ∧ CHt s i j c X) I3 I4 (sz s) s → ∀ v3 v10 v12 v13 v15 v16 v18, a_wp aTab aMX (d + 2) m_Mo_goOver 363 [.ref 89, .int (nI s), .int (nI 3), v3, .long (lN fu), aU, .int (nI i), .long (lN (LM L i)), aU, .int (nI j), v10, aU, v12, v13, aU, v15, v16, aU, v18] [] (g, I4, J4) Q := by
        intro I4 J4 hX4 hXJ4 h94 hR4 v3 v10 v12 v13 v15 v16 v18
        rw [b_Mo_goOver_363, nadd]
        refine ihj I4 J4 (XR_t hX3 hX4) (XRJ_t hXJ3 hXJ4) (by rw [es2, ← Nat.add_assoc]; exact h94) ?_ _ _ _ _ _ _ _
        rw [es2]
        refine RSr_scan (by omega) hR3 hR4 ?_ ?_
        · rintro X _ ⟨b, c, w1, w2⟩
          exact ⟨b, c, by omega, w2⟩
        · rintro X m0 _ ⟨c, w1, w2, w3, w4⟩
          refine ⟨j, c, by omega, w1, w2, fun b' c' hc' hgd => ?_, w4⟩
          by_cases z1 : b' < j
          · exact absurd hgd (row3_n m0 b' c' z1 hc')
          · by_cases z2 : b' = j
            · right
              refine ⟨z2.symm, ?_⟩
              by_cases z3 : c' < c
              · rw [z2] at hgd; exact absurd hgd (w3 c' z3)
              · omega
            · left; omega
      have none : (∀ k, k < N.length → ¬ gd3 fu (LM L i) (LM M j) (LM N k)) → ∀ v3 v10 v12 v13 v15 v16 v18, a_wp aTab aMX (d + 2) m_Mo_goOver 363 [.ref 89, .int (nI s), .int (nI 3), v3, .long (lN fu), aU, .int (nI i), .long (lN (LM L i)), aU, .int (nI j), v10, aU, v12, v13, aU, v15, v16, aU, v18] [] (g, I3, J3) Q := by
        intro hno
        have z : fb_ct p N.length = 0 := fb_ct_zero.2 (fun k hk => by rw [hp]; exact bP_f.2 (hno k hk))
        exact out I3 J3 (XR_r I3) (XRJ_r J3) (by rw [z]; exact h93) (RSr_0 (fun w => w z))
      rw [b_Mo_goOver_188, if_neg (by decide), b_Mo_goOver_226, fb_orL, ldif]
      by_cases qa : ¬ sbs (LM L i) (LM M j) ∧ ¬ sbs (LM M j) (LM L i)
      rotate_left
      · rw [bP_f.2 qa]
        simp (disch := omega) only [b_Mo_goOver_243, b_Mo_goOver_250, b_Mo_goOver_276, b_Mo_goOver_277, ↓reduceIte, nadd, nmul, nsub, nlt, neq, ncl, nvi, ndiv, nrem, exI, exJ, exV, eq_self, true_and, and_true, true_or, or_true, if_true, if_false, not_true, not_false_eq_true, false_and, and_false, decide_true, decide_false, bi_T, bi_F, bi_0, bi_1, bi_z, bft, n10, n01, Nat.reduceEqDiff, Nat.reduceLT, Nat.reduceAdd, Nat.reduceMul, reduceCtorEq, Nat.lt_irrefl]
        refine none (fun k hk w => ?_) _ _ _ _ _ _ _
        by_cases y : sbs (LM L i) (LM M j)
        · exact gd3_no1 y w
        · by_cases y2 : sbs (LM M j) (LM L i)
          · exact gd3_no2 y2 w
          · exact qa ⟨y, y2⟩
      rw [bP_t.2 qa]
      by_cases ql : sbs fu (LM L i ||| LM M j)
      · rw [b_Mo_goOver_243]
        simp (disch := omega) only [b_Mo_goOver_250, ↓reduceIte, nadd, nmul, nsub, nlt, neq, ncl, nvi, ndiv, nrem, exI, exJ, exV, eq_self, true_and, and_true, true_or, or_true, if_true, if_false, not_true, not_false_eq_true, false_and, and_false, decide_true, decide_false, bi_T, bi_F, bi_0, bi_1, bi_z, bft, n10, n01, Nat.reduceEqDiff, Nat.reduceLT, Nat.reduceAdd, Nat.reduceMul, reduceCtorEq]
        rw [b_Mo_goOver_255, if_pos (by rw [dif0 hfu]; exact ql)]
        simp (disch := omega) only [b_Mo_goOver_276, b_Mo_goOver_277, ↓reduceIte, nadd, nmul, nsub, nlt, neq, ncl, nvi, ndiv, nrem, exI, exJ, exV, eq_self, true_and, and_true, true_or, or_true, if_true, if_false, not_true, not_false_eq_true, false_and, and_false, decide_true, decide_false, bi_T, bi_F, bi_0, bi_1, bi_z, bft, n10, n01, Nat.reduceEqDiff, Nat.reduceLT, Nat.reduceAdd, Nat.reduceMul, reduceCtorEq, Nat.lt_irrefl]
        exact none (fun k hk => gd3_no ql (hNf k hk)) _ _ _ _ _ _ _
      refine dn (P := fun k => ∀ I4 J4, XR I3 I4 → XRJ J3 J4 → J4 89 58 = lN (min 1000000000 (W + ct3 fu (LM L) (LM M) (LM N) i M.length N.length + row3 fu (LM L i) (LM M) (LM N) j N.length + fb_ct p k)) → RSr (fb_ct p k ≠ 0) (fun X => ∃ c, c < k ∧ gd3 fu (LM L i) (LM M j) (LM N c) ∧ (∀ c', c' < c → ¬ gd3 fu (LM L i) (LM M j) (LM N c')) ∧ CHt s i j c X) I3 I4 (sz s) s → ∀ v3 v16 v18, a_wp aTab aMX (d + 2) m_Mo_goOver 243 [.ref 89, .int (nI s), .int (nI 3), v3, .long (lN fu), aU, .int (nI i), .long (lN (LM L i)), aU, .int (nI j), .long (lN (LM M j)), aU, .int (nI 1), .long (lN (dif fu (LM L i ||| LM M j))), aU, .int (nI k), v16, aU, v18] [] (g, I4, J4) Q) (n := N.length) ?_ ?_ 0 (by omega) I3 J3 (XR_r I3) (XRJ_r J3) h93 (RSr_0 (fun w => w rfl)) _ _ _
      · intro I4 J4 hX4 hXJ4 h94 hR4 v3 v16 v18
        have X4 := XR_t X3 hX4
        have XJ4 := XRJ_t XJ3 hXJ4
        have T4 : TR s (I4 121) := by rw [XR_a X4 (by decide) (by decide)]; exact hT
        have N4 := RLs_x X4 XJ4 hR2
        have e2 := T4 2 (by omega)
        rw [b_Mo_goOver_243]
        simp (disch := omega) only [b_Mo_goOver_250, ↓reduceIte, nadd, nmul, nsub, nlt, neq, ncl, nvi, ndiv, nrem, exI, exJ, exV, eq_self, true_and, and_true, true_or, or_true, if_true, if_false, not_true, not_false_eq_true, false_and, and_false, decide_true, decide_false, bi_T, bi_F, bi_0, bi_1, bi_z, bft, n10, n01, Nat.reduceEqDiff, Nat.reduceLT, Nat.reduceAdd, Nat.reduceMul, reduceCtorEq]
        rw [b_Mo_goOver_255, if_neg (by rw [dif0 hfu]; exact ql), b_Mo_goOver_262 hg]
        simp (disch := omega) only [b_Mo_goOver_277, ↓reduceIte, nadd, nmul, nsub, nlt, neq, ncl, nvi, ndiv, nrem, exI, exJ, exV, eq_self, true_and, and_true, true_or, or_true, if_true, if_false, not_true, not_false_eq_true, false_and, and_false, decide_true, decide_false, bi_T, bi_F, bi_0, bi_1, bi_z, bft, n10, n01, Nat.reduceEqDiff, Nat.reduceLT, Nat.reduceAdd, Nat.reduceMul, reduceCtorEq, e2, q2, N4.1, Nat.lt_irrefl]
        exact out I4 J4 hX4 hXJ4 h94 hR4 _ _ _ _ _ _ _
      · intro k hk ihk I4 J4 hX4 hXJ4 h94 hR4 v3 v16 v18
        have X4 := XR_t X3 hX4
        have XJ4 := XRJ_t XJ3 hXJ4
        have T4 : TR s (I4 121) := by rw [XR_a X4 (by decide) (by decide)]; exact hT
        have N4 := RLs_x X4 XJ4 hR2
        have e2 := T4 2 (by omega)
        rw [b_Mo_goOver_243]
        simp (disch := omega) only [b_Mo_goOver_250, ↓reduceIte, nadd, nmul, nsub, nlt, neq, ncl, nvi, ndiv, nrem, exI, exJ, exV, eq_self, true_and, and_true, true_or, or_true, if_true, if_false, not_true, not_false_eq_true, false_and, and_false, decide_true, decide_false, bi_T, bi_F, bi_0, bi_1, bi_z, bft, n10, n01, Nat.reduceEqDiff, Nat.reduceLT, Nat.reduceAdd, Nat.reduceMul, reduceCtorEq]
        rw [b_Mo_goOver_255, if_neg (by rw [dif0 hfu]; exact ql), b_Mo_goOver_262 hg]
        simp (disch := omega) only [b_Mo_goOver_277, ↓reduceIte, nadd, nmul, nsub, nlt, neq, ncl, nvi, ndiv, nrem, exI, exJ, exV, eq_self, true_and, and_true, true_or, or_true, if_true, if_false, not_true, not_false_eq_true, false_and, and_false, decide_true, decide_false, bi_T, bi_F, bi_0, bi_1, bi_z, bft, n10, n01, Nat.reduceEqDiff, Nat.reduceLT, Nat.reduceAdd, Nat.reduceMul, reduceCtorEq, e2, q2, N4.1, hk]
        rw [b_Mo_goOver_280 hg, c_mMaskAt hg hs (by omega) (by omega) T4 N4 hk hn2]
        simp only [exJ]
        have call : a_wp aTab aMX (d + 2) m_Mo_goOver 342 [.ref 89, .int (nI s), .int (nI 3), aU, .long (lN fu), aU, .int (nI i), .long (lN (LM L i)), aU, .int (nI j), .long (lN (LM M j)), aU, .int (nI 1), .long (lN (dif fu (LM L i ||| LM M j))), aU, .int (nI k), aU, aU, aU] [.int (bi (p k))] (g, I4, J4) Q := by
          rw [b_Mo_goOver_342 hg]
          refine c_mTake hg hs (by omega) (by omega) T4 h94 ?_
          intro I5 J5 hX5 hXJ5 h95 hR5
          simp only [exV, true_and]
          rw [b_Mo_goOver_357, nadd]
          have es3 : fb_ct p (k + 1) = fb_ct p k + (p k).toNat := by
            rw [fb_ct_succ]
            cases p k <;> rfl
          refine ihk I5 J5 (XR_t hX4 hX5) (XRJ_t hXJ4 hXJ5) (by rw [es3, ← Nat.add_assoc]; exact h95) ?_ _ _ _
          rw [es3]
          refine RSr_scan (by omega) hR4 hR5 ?_ ?_
          · rintro X _ ⟨b, w1, w2⟩
            exact ⟨b, by omega, w2⟩
          · intro X m0 x0 w
            have hpj : p k = true := by
              cases y : p k
              · rw [y] at x0; exact absurd rfl x0
              · rfl
            refine ⟨k, by omega, ?_, fun b' hb' => ?_, w⟩
            · rw [hp] at hpj; exact bP_t.1 hpj
            · have := fb_ct_zero.1 m0 b' hb'
              rw [hp] at this
              exact bP_f.1 this
        have hpk : p k = bP (sbs (dif fu (LM L i ||| LM M j)) (LM N k) ∧ ¬ sbs (LM L i) (LM M j ||| LM N k) ∧ ¬ sbs (LM M j) (LM L i ||| LM N k)) := by rw [hp]; exact bP_c (gd3_left hfu ql)
        rw [hpk] at call
        have hrl := dif_lt (b := LM L i ||| LM M j) hfu
        rw [b_Mo_goOver_287, ldif]
        by_cases y1 : sbs (dif fu (LM L i ||| LM M j)) (LM N k)
        rotate_left
        · rw [if_neg (by rw [dif0 hrl]; exact y1), b_Mo_goOver_341]
          rw [bP_f.2 (fun w => y1 w.1)] at call
          exact call
        rw [if_pos (by rw [dif0 hrl]; exact y1), b_Mo_goOver_303, fb_orL, ldif]
        by_cases y2 : sbs (LM L i) (LM M j ||| LM N k)
        · rw [if_pos (by rw [dif0 (hok i hi)]; exact y2), b_Mo_goOver_341]
          rw [bP_f.2 (fun w => w.2.1 y2)] at call
          exact call
        rw [if_neg (by rw [dif0 (hok i hi)]; exact y2), b_Mo_goOver_320, fb_orL, ldif]
        by_cases y3 : sbs (LM M j) (LM L i ||| LM N k)
        · rw [if_pos (by rw [dif0 (hok' j hj)]; exact y3), b_Mo_goOver_341]
          rw [bP_f.2 (fun w => w.2.2 y3)] at call
          exact call
        · rw [if_neg (by rw [dif0 (hok' j hj)]; exact y3), b_Mo_goOver_337]
          rw [bP_t.2 ⟨y1, y2, y3⟩] at call
          exact call
theorem c_goOver (hg : Geo g) {s W fu n : Nat} {A : Nat → List (Nat × Nat)} (hs : s < 64) (h1 : 1 ≤ sz s) (h3 : sz s ≤ 3) (hA : ∀ f, f < 6 → s.testBit f = true → RLs f (A f) I J) (hL : ∀ f, f < 6 → mOk (A f) ∧ (A f).length ≤ 1632 ∧ ∀ i, i < (A f).length → sbs (LM (A f) i) fu) (h49 : I 89 49 = nI n) (hn : n ≤ 64) (hfu : fu = 2 ^ n - 1) (hW : J 89 58 = lN (min 1000000000 W)) (hQ : ∀ I' J', (∀ a k, a ≠ 120 → a ≠ 121 → ¬ (a = 89 ∧ (k = 55 ∨ k = 56)) → I' a k = I a k) → XRJ J J' → J' 89 58 = lN (min 1000000000 (W + wS fu A s)) → RSr (wS fu A s ≠ 0) (CHO fu A s (fun _ i => i)) I I' (sz s) s → Q none (g, I', J')) : a_call aTab aMX (d + 3) m_Mo_goOver [.ref 89, .int (nI s), .int (nI (sz s))] (g, I, J) Q := by
  have hf64 : fu < 2 ^ 64 := by
    have h1 : 2 ^ n ≤ 2 ^ 64 := Nat.pow_le_pow_right (n := 2) (by decide) hn
    have h2 : 0 < 2 ^ n := Nat.two_pow_pos n
    omega
  rw [e_Mo_goOver, b_Mo_goOver_0]
  have go : ∀ I2, (∀ a, a ≠ 121 → I2 a = I a) → TR s (I2 121) → ∀ v3 v4, a_wp aTab aMX (d + 2) m_Mo_goOver 38 [.ref 89, .int (nI s), .int (nI (sz s)), v3, v4, aU, aU, aU, aU, aU, aU, aU, aU, aU, aU, aU, aU, aU, aU] [] (g, I2, J) Q := by
    intro I2 ho hT v3 v4
    have RL2 : ∀ f, f < 6 → s.testBit f = true → RLs f (A f) I2 J := by
      intro f hf hb
      have := hA f hf hb
      unfold RLs at this ⊢
      rw [ho 117 (by decide), ho 116 (by decide)]
      exact this
    have tr : ∀ I3, XR I2 I3 → (∀ a k, a ≠ 120 → a ≠ 121 → ¬ (a = 89 ∧ (k = 55 ∨ k = 56)) → I3 a k = I a k) := fun I3 hX a k y1 y2 y3 => by rw [hX a k y1 y3, ho a y2]
    have rr : ∀ {fd : Prop} {fw : (Nat → Int32) → Prop} {I3 : Nat → Nat → Int32}, RSr fd fw I2 I3 (sz s) s → RSr fd fw I I3 (sz s) s := by
      intro fd fw I3 h
      unfold RSr at h ⊢
      rw [ho 89 (by decide), ho 120 (by decide)] at h
      exact h
    have t0 := th_s hs (show 0 < sz s by omega)
    have at66 : ∀ v3 v7 v9 v10 v12 v13 v15 v16 v18, a_wp aTab aMX (d + 2) m_Mo_goOver 66 [.ref 89, .int (nI s), .int (nI (sz s)), v3, .long (lN fu), aU, .int (nI 0), v7, aU, v9, v10, aU, v12, v13, aU, v15, v16, aU, v18] [] (g, I2, J) Q := by
      have hz : sz s = 1 ∨ sz s = 2 ∨ sz s = 3 := by omega
      have l0 := hL _ t0.1
      rcases hz with e | e | e
      · refine go1 hg hs e hT (RL2 _ t0.1 t0.2.1) l0.1 l0.2.1 hf64 hW ?_
        intro I3 J3 hX hXJ h9 hR
        have ew : wS fu A s = ct1 fu (LM (A (th s 0))) (A (th s 0)).length := if_pos e
        refine hQ I3 J3 (tr I3 hX) hXJ (by rw [ew]; exact h9) (rr ?_)
        rw [ew]
        refine RSr_m hR Iff.rfl ?_
        rintro X _ ⟨i, w1, w2⟩
        exact ⟨i, 0, 0, ⟨fun _ => w1, fun w => absurd w (by omega), fun w => absurd w (by omega)⟩, w2⟩
      · have t1 := th_s hs (show 1 < sz s by omega)
        have l1 := hL _ t1.1
        refine go2 hg hs e hT (RL2 _ t0.1 t0.2.1) l0.1 l0.2.1 l0.2.2 (RL2 _ t1.1 t1.2.1) l1.1 l1.2.1 l1.2.2 hf64 hW ?_
        intro I3 J3 hX hXJ h9 hR
        have ew : wS fu A s = ct2 fu (LM (A (th s 0))) (LM (A (th s 1))) (A (th s 0)).length (A (th s 1)).length := by unfold wS; rw [if_neg (by omega), if_pos e]
        refine hQ I3 J3 (tr I3 hX) hXJ (by rw [ew]; exact h9) (rr ?_)
        rw [ew]
        refine RSr_m hR Iff.rfl ?_
        rintro X _ ⟨i, j, w1, w2⟩
        exact ⟨i, j, 0, ⟨fun w => absurd w (by omega), fun _ => w1, fun w => absurd w (by omega)⟩, w2⟩
      · have t1 := th_s hs (show 1 < sz s by omega)
        have l1 := hL _ t1.1
        have t2 := th_s hs (show 2 < sz s by omega)
        have l2 := hL _ t2.1
        refine go3 hg hs e hT (RL2 _ t0.1 t0.2.1) l0.1 l0.2.1 (RL2 _ t1.1 t1.2.1) l1.1 l1.2.1 (RL2 _ t2.1 t2.2.1) l2.1 l2.2.1 l2.2.2 hf64 hW ?_
        intro I3 J3 hX hXJ h9 hR
        have ew : wS fu A s = ct3 fu (LM (A (th s 0))) (LM (A (th s 1))) (LM (A (th s 2))) (A (th s 0)).length (A (th s 1)).length (A (th s 2)).length := by unfold wS; rw [if_neg (by omega), if_neg (by omega)]
        refine hQ I3 J3 (tr I3 hX) hXJ (by rw [ew]; exact h9) (rr ?_)
        rw [ew]
        refine RSr_m hR Iff.rfl ?_
        rintro X _ ⟨i, j, k, w1, w2⟩
        exact ⟨i, j, k, ⟨fun w => absurd w (by omega), fun w => absurd w (by omega), fun _ => w1⟩, w2⟩
    rw [b_Mo_goOver_38 hg, ho 89 (by decide), h49, req (by omega) (by omega)]
    by_cases q : n = 64
    · rw [if_pos q, b_Mo_goOver_47, b_Mo_goOver_61, m1L, show (2 ^ 64 - 1 : Nat) = fu by rw [hfu, q]]
      exact at66 _ _ _ _ _ _ _ _ _
    · rw [if_neg q, b_Mo_goOver_53 hg, ho 89 (by decide), h49, lshl1 (by omega), Nat.one_shiftLeft, lN_sub (Nat.two_pow_pos _), ← hfu, b_Mo_goOver_61]
      exact at66 _ _ _ _ _ _ _ _ _
  refine dn (P := fun f => ∀ I2, (∀ a, a ≠ 121 → I2 a = I a) → (∀ p, p < f → s.testBit p = true → I2 121 (fb_ct (fun k => s.testBit k) p) = nI p) → a_wp aTab aMX (d + 2) m_Mo_goOver 5 [.ref 89, .int (nI s), .int (nI (sz s)), .int (nI (fb_ct (fun k => s.testBit k) f)), .int (nI f), aU, aU, aU, aU, aU, aU, aU, aU, aU, aU, aU, aU, aU, aU] [] (g, I2, J) Q) (n := 6) ?_ ?_ 0 (by omega) I (fun _ _ => rfl) (fun p hp => absurd hp (by omega))
  · intro I2 ho h
    rw [b_Mo_goOver_5, rlt (by omega) (by omega), if_neg (by omega)]
    refine go I2 ho (fun k hk => ?_) _ _
    obtain ⟨w1, w2, w3⟩ := th_s hs hk
    have := h (th s k) w1 w2
    rw [w3] at this
    exact this
  · intro f hf ih I2 ho h
    have hle : fb_ct (fun k => s.testBit k) f ≤ sz s := fb_ct_mono _ (by omega)
    obtain ⟨n, en⟩ : ∃ n, n = fb_ct (fun k => s.testBit k) f := ⟨_, rfl⟩
    rw [b_Mo_goOver_5, rlt (by omega) (by omega), if_pos hf, b_Mo_goOver_12, ← en, c_is _ (by omega), bt_nI (by omega)]
    simp only [exI]
    have es := fb_ct_succ (fun k => s.testBit k) f
    rw [b_Mo_goOver_18]
    cases qb : s.testBit f
    · rw [qb] at es
      have es : fb_ct (fun k => s.testBit k) (f + 1) = n := by rw [es, en]; rfl
      rw [if_pos bi_F, b_Mo_goOver_32, nadd, ← es]
      refine ih I2 ho (fun p hp hb => h p ?_ hb)
      by_cases z : p = f
      · rw [z, qb] at hb; cases hb
      · omega
    · have hlt : n < sz s := by
        have := (th_of hs hf qb).1
        omega
      have q3 : n < 3 := by omega
      rw [qb] at es
      have es : fb_ct (fun k => s.testBit k) (f + 1) = n + 1 := by rw [es, en]; rfl
      rw [if_neg (by decide)]
      simp (disch := omega) only [b_Mo_goOver_21 hg, b_Mo_goOver_32, ↓reduceIte, nadd, nmul, nsub, nlt, neq, ncl, nvi, ndiv, nrem, exI, exJ, exV, eq_self, true_and, and_true, true_or, or_true, if_true, if_false, not_true, not_false_eq_true, false_and, and_false, decide_true, decide_false, bi_T, bi_F, bi_0, bi_1, bi_z, bft, n10, n01, Nat.reduceEqDiff, Nat.reduceLT, Nat.reduceAdd, Nat.reduceMul, reduceCtorEq, q3]
      rw [← es]
      refine ih _ (fun a ha => funext (fun j => by rw [u2_a ha, ho a ha])) (fun p hp hb => ?_)
      by_cases z : p = f
      · rw [z, ← en, u2_s]
      · have w := h p (by omega) hb
        have hlt2 : fb_ct (fun k => s.testBit k) p < n := by
          have := fb_ct_mono (fun k => s.testBit k) (show p + 1 ≤ f by omega)
          rw [fb_ct_succ, if_pos hb] at this
          omega
        rw [u2_k (by omega)]
        exact w
end GOV
