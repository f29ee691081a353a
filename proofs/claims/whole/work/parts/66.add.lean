/-! ===== the class adds a shadow ===== -/
section PAD
variable {d : Nat} {g : aG} {I : Nat → Nat → Int32} {J : Nat → Nat → Int64} {Q : aQ}
theorem c_add (hg : Geo g) {p m e : Nat} {L : List (Nat × Nat)} (hP : PO g p) (hI : PI p L I J) (hok : mOk L) (hm : m < 2 ^ 64) (hz : m ≠ 0) (hlen : L.length < 1632) (hQ1 : newM L m → ∀ I' J', PF p I I' J J' → PI p (L ++ [(m, e)]) I' J' → Q none (g, I', J')) (hQ0 : ¬ newM L m → Q none (g, I, J)) : a_call aTab aMX (d + 3) m_Prints_add [.ref p, .long (lN m), .int (nI e)] (g, I, J) Q := by
  obtain ⟨p0, k0, ⟨r3, k3, n3⟩, ⟨r4, k4, n4⟩, ⟨r5, k5, n5⟩, ⟨r6, k6, n6⟩, ⟨r7, k7, n7⟩, ⟨r8, k8, n8⟩⟩ := hP
  obtain ⟨i1, i2, i3, i4, i5, i6, i7, i8⟩ := hI
  obtain ⟨c, hc⟩ := lw_ex hz
  have hc64 : c < 64 := by
    by_cases q : c < 64
    · exact q
    · have := hc.1
      rw [tb64 hm (by omega)] at this
      cases this
  have nz : ¬ lN m = lN 0 := by rw [lN64 hm (Nat.two_pow_pos 64)]; exact hz
  obtain ⟨L', hL'⟩ : ∃ L', L' = L ++ [(m, e)] := ⟨_, rfl⟩
  have ll : L'.length = L.length + 1 := by rw [hL', List.length_append]; rfl
  have f1 : ∀ i, i < L.length → LM L' i = LM L i := fun i hi => by rw [hL']; exact LM_l hi
  have f2 : LM L' L.length = m := by rw [hL']; exact LM_e
  have f3 : ∀ i, i < L.length → LQ L' i = LQ L i := fun i hi => by rw [hL']; exact LQ_l hi
  have f4 : LQ L' L.length = e := by rw [hL']; exact LQ_e
  rw [← hL'] at hQ1
  clear hL'
  obtain ⟨n, hn⟩ : ∃ n, n = L.length := ⟨_, rfl⟩
  rw [← hn] at ll f1 f2 f3 f4 i1 i2 i3 i4 i5 i6 i7 i8 hlen
  have hw : n / 64 < 26 := by omega
  have hm63 : n &&& 63 = n % 64 := Nat.and_two_pow_sub_one_eq_mod n 6
  -- the last things
  have fin : newM L m → ∀ I2 J2, PF p I I2 J J2 → I2 p = I p → J2 p = J p → (∀ i, i < n + 1 → J2 (p + 1) i = lN (LM L' i) ∧ I2 (p + 2) i = nI (LQ L' i)) → (∀ c, c < 64 → ∀ w, w < 26 → J2 (p + 3) (c * 26 + w) = lN (hv (LM L') (n + 1) c w)) → (∀ c, c < 64 → I2 (p + 4) c = nI (fb_ct (fun i => (LM L' i).testBit c) (n + 1))) → (∀ c, c < 64 → I2 (p + 5) c = prv (LM L') c (n + 1)) → (∀ i, i < n + 1 → ∀ c, lwb (LM L' i) c → I2 (p + 6) i = prv (LM L') c i) → ∀ v3 v4 v5 v6, a_wp aTab aMX (d + 2) m_Prints_add 192 [.ref p, .long (lN m), aU, v3, v4, v5, v6] [] (g, I2, J2) Q := by
    intro hnew I2 J2 hF e0 e2 w1 w2 w3 w4 w5 v3 v4 v5 v6
    have a1 : J2 p 2 = lN (orU (LM L) n) := by rw [e2]; exact i3
    have a2 : I2 p 1 = nI (mxU (LM L) n) := by rw [e0]; exact i2
    have a3 : I2 p 0 = nI n := by rw [e0]; exact i1
    have b1 := mxU_le (F := LM L) n
    have b2 := pcN_le m
    have u1 : orU (LM L') (n + 1) = orU (LM L) n ||| m := by
      show orU (LM L') n ||| LM L' n = _
      rw [f2, orU_c n f1]
    have u2' : mxU (LM L') (n + 1) = max (mxU (LM L) n) (pcN m) := by
      show max (mxU (LM L') n) (pcN (LM L' n)) = _
      rw [f2, mxU_c n f1]
    rw [b_Prints_add_192]
    simp (disch := omega) only [↓reduceIte, nadd, nmul, nsub, nlt, neq, ncl, nvi, ndiv, nrem, exI, exJ, exV, eq_self, true_and, and_true, true_or, or_true, if_true, if_false, not_true, not_false_eq_true, false_and, and_false, decide_true, decide_false, bi_T, bi_F, bi_0, bi_1, bi_z, bft, n10, n01, Nat.reduceEqDiff, Nat.reduceLT, Nat.reduceAdd, Nat.reduceMul, reduceCtorEq, k0, a1, a2, a3, fb_orL, c_bitL, pcL_N]
    rw [b_Prints_add_211]
    have emx : (if nI (mxU (LM L) n) < nI (pcN m) then nI (pcN m) else nI (mxU (LM L) n)) = nI (mxU (LM L') (n + 1)) := by
      rw [u2']
      by_cases q : mxU (LM L) n < pcN m
      · rw [if_pos (by rw [nlt (by omega) (by omega)]; exact q), show max (mxU (LM L) n) (pcN m) = pcN m by omega]
      · rw [if_neg (by rw [nlt (by omega) (by omega)]; exact q), show max (mxU (LM L) n) (pcN m) = mxU (LM L) n by omega]
    rw [emx]
    have x1 : ∀ v, u2 I2 p 1 v p 0 = nI n := fun v => by rw [u2_k (by decide)]; exact a3
    rw [x1]
    simp (disch := omega) only [↓reduceIte, nadd, nmul, nsub, nlt, neq, ncl, nvi, ndiv, nrem, exI, exJ, exV, eq_self, true_and, and_true, true_or, or_true, if_true, if_false, not_true, not_false_eq_true, false_and, and_false, decide_true, decide_false, bi_T, bi_F, bi_0, bi_1, bi_z, bft, n10, n01, Nat.reduceEqDiff, Nat.reduceLT, Nat.reduceAdd, Nat.reduceMul, reduceCtorEq, k0]
    refine hQ1 hnew _ _ ?_ ⟨?_, ?_, ?_, ?_, ?_, ?_, ?_, ?_⟩
    · intro a ha
      rw [u2_r (by omega), u2_r (by omega), u2_r (by omega)]
      exact hF a ha
    · rw [u2_s, ll]
    · rw [u2_k (by decide), u2_s, ll]
    · rw [u2_s, ll, u1]
    · intro i hi
      rw [u2_r (show p + 1 ≠ p by omega), u2_r (show p + 2 ≠ p by omega), u2_r (show p + 2 ≠ p by omega)]
      exact w1 i (by omega)
    · intro c hc w hw
      rw [u2_r (show p + 3 ≠ p by omega), ll]
      exact w2 c hc w hw
    · intro c hc
      rw [u2_r (show p + 4 ≠ p by omega), u2_r (show p + 4 ≠ p by omega), ll]
      exact w3 c hc
    · intro c hc
      rw [u2_r (show p + 5 ≠ p by omega), u2_r (show p + 5 ≠ p by omega), ll]
      exact w4 c hc
    · intro i hi
      rw [u2_r (show p + 6 ≠ p by omega), u2_r (show p + 6 ≠ p by omega)]
      exact w5 i (by omega)
  -- the cells
  have cells : newM L m → ∀ I1 J1, PF p I I1 J J1 → I1 p = I p → J1 p = J p → (∀ i, i < n + 1 → J1 (p + 1) i = lN (LM L' i) ∧ I1 (p + 2) i = nI (LQ L' i)) → (∀ c, c < 64 → I1 (p + 5) c = prv (LM L') c (n + 1)) → (∀ i, i < n + 1 → ∀ c, lwb (LM L' i) c → I1 (p + 6) i = prv (LM L') c i) → ∀ k, k ≤ 64 → ∀ I2 J2, (∀ a, a ≠ p + 4 → I2 a = I1 a) → (∀ a, a ≠ p + 3 → J2 a = J1 a) → (∀ c, c < 64 → ∀ w, w < 26 → J2 (p + 3) (c * 26 + w) = lN (hv (LM L') (if c < k then n + 1 else n) c w)) → (∀ c, c < 64 → I2 (p + 4) c = nI (fb_ct (fun i => (LM L' i).testBit c) (if c < k then n + 1 else n))) → ∀ v3 v4 v5, a_wp aTab aMX (d + 2) m_Prints_add 127 [.ref p, .long (lN m), aU, v3, v4, v5, .int (nI k)] [] (g, I2, J2) Q := by
    intro hnew I1 J1 hF e0 e2 w1 w4 w5
    refine dn ?_ ?_
    · intro I2 J2 y1 y2 y3 y4 v3 v4 v5
      simp (disch := omega) only [b_Prints_add_127, ↓reduceIte, nadd, nmul, nsub, nlt, neq, ncl, nvi, ndiv, nrem, exI, exJ, exV, eq_self, true_and, and_true, true_or, or_true, if_true, if_false, not_true, not_false_eq_true, false_and, and_false, decide_true, decide_false, bi_T, bi_F, bi_0, bi_1, bi_z, bft, n10, n01, Nat.reduceEqDiff, Nat.reduceLT, Nat.reduceAdd, Nat.reduceMul, reduceCtorEq, Nat.lt_irrefl]
      refine fin hnew I2 J2 ?_ ?_ ?_ ?_ ?_ ?_ ?_ ?_ _ _ _ _
      · intro a ha
        rw [y1 a (by omega), y2 a (by omega)]; exact hF a ha
      · rw [y1 p (by omega)]; exact e0
      · rw [y2 p (by omega)]; exact e2
      · intro i hi
        rw [y2 (p + 1) (by omega), y1 (p + 2) (by omega)]; exact w1 i hi
      · intro c hc w hw
        have := y3 c hc w hw
        rw [if_pos hc] at this
        exact this
      · intro c hc
        have := y4 c hc
        rw [if_pos hc] at this
        exact this
      · intro c hc
        rw [y1 (p + 5) (by omega)]; exact w4 c hc
      · intro i hi
        rw [y1 (p + 6) (by omega)]; exact w5 i hi
    · intro k hk ih I2 J2 y1 y2 y3 y4 v3 v4 v5
      have a3 : I2 p 0 = nI n := by rw [y1 p (by omega), e0]; exact i1
      rw [b_Prints_add_127]
      simp (disch := omega) only [b_Prints_add_134, ↓reduceIte, nadd, nmul, nsub, nlt, neq, ncl, nvi, ndiv, nrem, exI, exJ, exV, eq_self, true_and, and_true, true_or, or_true, if_true, if_false, not_true, not_false_eq_true, false_and, and_false, decide_true, decide_false, bi_T, bi_F, bi_0, bi_1, bi_z, bft, n10, n01, Nat.reduceEqDiff, Nat.reduceLT, Nat.reduceAdd, Nat.reduceMul, reduceCtorEq, hk, lbit hm, lb1]
      cases q : m.testBit k
      · simp (disch := omega) only [b_Prints_add_186, ↓reduceIte, nadd, nmul, nsub, nlt, neq, ncl, nvi, ndiv, nrem, exI, exJ, exV, eq_self, true_and, and_true, true_or, or_true, if_true, if_false, not_true, not_false_eq_true, false_and, and_false, decide_true, decide_false, bi_T, bi_F, bi_0, bi_1, bi_z, bft, n10, n01, Nat.reduceEqDiff, Nat.reduceLT, Nat.reduceAdd, Nat.reduceMul, reduceCtorEq]
        refine ih I2 J2 y1 y2 ?_ ?_ _ _ _
        · intro c hc w hw
          by_cases z : c = k
          · rw [z, if_pos (by omega), hv_s (by rw [f2, q]; exact fun z => by cases z.2)]
            have := y3 k hk w hw
            rw [if_neg (by omega)] at this
            exact this
          · have := y3 c hc w hw
            by_cases z2 : c < k
            · rw [if_pos z2] at this; rw [if_pos (by omega)]; exact this
            · rw [if_neg z2] at this; rw [if_neg (by omega)]; exact this
        · intro c hc
          by_cases z : c = k
          · rw [z, if_pos (by omega), fb_ct_succ, f2, q]
            have := y4 k hk
            rw [if_neg (by omega)] at this
            exact this
          · have := y4 c hc
            by_cases z2 : c < k
            · rw [if_pos z2] at this; rw [if_pos (by omega)]; exact this
            · rw [if_neg z2] at this; rw [if_neg (by omega)]; exact this
      · have b3 := y3 k hk (n / 64) hw
        rw [if_neg (by omega)] at b3
        have b4 := y4 k hk
        rw [if_neg (by omega)] at b4
        have b5 : k * 26 + n / 64 < 1664 := by omega
        simp (disch := omega) only [b_Prints_add_145, b_Prints_add_186, ↓reduceIte, nadd, nmul, nsub, nlt, neq, ncl, nvi, ndiv, nrem, exI, exJ, exV, eq_self, true_and, and_true, true_or, or_true, if_true, if_false, not_true, not_false_eq_true, false_and, and_false, decide_true, decide_false, bi_T, bi_F, bi_0, bi_1, bi_z, bft, n10, n01, Nat.reduceEqDiff, Nat.reduceLT, Nat.reduceAdd, Nat.reduceMul, reduceCtorEq, k0, r5, k5, n5, r6, k6, n6, a3, nshr, nand, hm63, Nat.shiftRight_eq_div_pow, Nat.reducePow, b3, b4, b5, hk, lshl1, fb_orL]
        refine ih _ _ (fun a ha => by rw [u2_r ha]; exact y1 a ha) (fun a ha => by rw [u2_r ha]; exact y2 a ha) ?_ ?_ _ _ _
        · intro c hc w hw2
          by_cases z : c = k
          · by_cases z2 : w = n / 64
            · rw [z, z2, u2_s, if_pos (by omega), hv_t (by rw [f2]; exact q)]
            · rw [z, u2_k (by omega), if_pos (by omega), hv_s (fun z => z2 z.1)]
              have := y3 k hk w hw2
              rw [if_neg (by omega)] at this
              exact this
          · rw [u2_k (by omega)]
            have := y3 c hc w hw2
            by_cases z2 : c < k
            · rw [if_pos z2] at this; rw [if_pos (by omega)]; exact this
            · rw [if_neg z2] at this; rw [if_neg (by omega)]; exact this
        · intro c hc
          by_cases z : c = k
          · rw [z, u2_s, if_pos (by omega), fb_ct_succ, f2, q, if_pos rfl]
          · rw [u2_k z]
            have := y4 c hc
            by_cases z2 : c < k
            · rw [if_pos z2] at this; rw [if_pos (by omega)]; exact this
            · rw [if_neg z2] at this; rw [if_neg (by omega)]; exact this
  -- written in
  have write : newM L m → ∀ v5 v6, a_wp aTab aMX (d + 2) m_Prints_add 77 [.ref p, .long (lN m), aU, .int (nI e), .int (nI c), v5, v6] [] (g, I, J) Q := by
    intro hnew v5 v6
    have x1 : u2 I (p + 6) n (prv (LM L) c n) p 0 = nI n := by rw [u2_a (by omega)]; exact i1
    have x2 : u2 (u2 I (p + 6) n (prv (LM L) c n)) (p + 5) c (nI n) p 0 = nI n := by rw [u2_a (by omega)]; exact x1
    rw [b_Prints_add_77]
    simp (disch := omega) only [↓reduceIte, nadd, nmul, nsub, nlt, neq, ncl, nvi, ndiv, nrem, exI, exJ, exV, eq_self, true_and, and_true, true_or, or_true, if_true, if_false, not_true, not_false_eq_true, false_and, and_false, decide_true, decide_false, bi_T, bi_F, bi_0, bi_1, bi_z, bft, n10, n01, Nat.reduceEqDiff, Nat.reduceLT, Nat.reduceAdd, Nat.reduceMul, reduceCtorEq, k0, r3, k3, n3, r4, k4, n4, r7, k7, n7, r8, k8, n8, i1, i7 c hc64, hc64, hlen, x1, x2]
    refine cells hnew _ _ ?_ ?_ ?_ ?_ ?_ ?_ 0 (by omega) _ _ (fun _ _ => rfl) (fun _ _ => rfl) ?_ ?_ _ _ _
    · intro a ha
      rw [u2_r (by omega), u2_r (by omega), u2_r (by omega), u2_r (by omega)]
      exact ⟨rfl, rfl⟩
    · rw [u2_r (by omega), u2_r (by omega), u2_r (by omega)]
    · rw [u2_r (by omega)]
    · intro i hi
      by_cases q : i = n
      · rw [q, u2_s, u2_s, f2, f4]; exact ⟨rfl, rfl⟩
      · rw [u2_k q, u2_k q, u2_r (by omega), u2_r (by omega), f1 i (by omega), f3 i (by omega)]
        exact i4 i (by omega)
    · intro c' hc'
      rw [u2_r (by omega)]
      by_cases q : c' = c
      · rw [q, u2_s, prv_y (by rw [f2]; exact hc)]
      · rw [u2_k q, u2_r (by omega), prv_n (by rw [f2]; exact fun z => q (lw_u z hc)), prv_c n f1]
        exact i7 c' hc'
    · intro i hi c' hl
      rw [u2_r (by omega), u2_r (by omega)]
      by_cases q : i = n
      · rw [q] at hl ⊢
        rw [f2] at hl
        rw [u2_s, lw_u hl hc, prv_c n f1]
      · rw [u2_k q, prv_c i (fun j hj => f1 j (by omega))]
        rw [f1 i (by omega)] at hl
        exact i8 i (by omega) c' hl
    · intro c' hc' w hw2
      rw [u2_r (by omega), if_neg (by omega), hv_c f1]
      exact i5 c' hc' w hw2
    · intro c' hc'
      rw [u2_r (by omega), u2_r (by omega), u2_r (by omega), if_neg (by omega), i6 c' hc']
      congr 1
      exact fb_ct_cong (fun i hi => by rw [f1 i hi])
  -- sought
  have seek : ∀ j, j ≤ n → ∀ k, k + j ≤ n → (∀ i, j ≤ i → i < n → LM L i ≠ m) → a_wp aTab aMX (d + 2) m_Prints_add 35 [.ref p, .long (lN m), aU, .int (nI e), .int (nI c), .int (prv (LM L) c j), .int (nI k)] [] (g, I, J) Q := by
    intro j
    induction j with
    | zero =>
      intro _ k hk hne
      have q : k < 1632 := by omega
      rw [b_Prints_add_35]
      simp (disch := omega) only [b_Prints_add_43, ↓reduceIte, nadd, nmul, nsub, nlt, neq, ncl, nvi, ndiv, nrem, exI, exJ, exV, eq_self, true_and, and_true, true_or, or_true, if_true, if_false, not_true, not_false_eq_true, false_and, and_false, decide_true, decide_false, bi_T, bi_F, bi_0, bi_1, bi_z, bft, n10, n01, Nat.reduceEqDiff, Nat.reduceLT, Nat.reduceAdd, Nat.reduceMul, reduceCtorEq, q, show prv (LM L) c 0 = (-1 : Int32) from rfl]
      exact write (fun i hi => hne i (by omega) (by omega)) _ _
    | succ j ih =>
      intro hj k hk hne
      by_cases ql : lwb (LM L j) c
      · have q : k < 1632 := by omega
        have q2 : j < 1632 := by omega
        rw [prv_y ql, b_Prints_add_35]
        have q3 : ¬ nI j = (-1 : Int32) := by
          intro z
          have h1 := b_m1 31 (by omega)
          rw [← z, bt_nI (by omega), Nat.testBit_lt_two_pow (Nat.lt_of_lt_of_le (show j < 2 ^ 11 by omega) (by decide))] at h1
          cases h1
        simp (disch := omega) only [b_Prints_add_43, b_Prints_add_49, ↓reduceIte, nadd, nmul, nsub, nlt, neq, ncl, nvi, ndiv, nrem, exI, exJ, exV, eq_self, true_and, and_true, true_or, or_true, if_true, if_false, not_true, not_false_eq_true, false_and, and_false, decide_true, decide_false, bi_T, bi_F, bi_0, bi_1, bi_z, bft, n10, n01, Nat.reduceEqDiff, Nat.reduceLT, Nat.reduceAdd, Nat.reduceMul, reduceCtorEq, q, q2, q3, k0, r3, k3, n3, (i4 j (by omega)).1, lN64 (hok j (by omega)) hm]
        by_cases q4 : LM L j = m
        · rw [if_pos q4, b_Prints_add_61]
          exact hQ0 (fun z => z j (by omega) q4)
        · rw [if_neg q4]
          simp (disch := omega) only [b_Prints_add_62, ↓reduceIte, nadd, nmul, nsub, nlt, neq, ncl, nvi, ndiv, nrem, exI, exJ, exV, eq_self, true_and, and_true, true_or, or_true, if_true, if_false, not_true, not_false_eq_true, false_and, and_false, decide_true, decide_false, bi_T, bi_F, bi_0, bi_1, bi_z, bft, n10, n01, Nat.reduceEqDiff, Nat.reduceLT, Nat.reduceAdd, Nat.reduceMul, reduceCtorEq, q2, k0, r8, k8, n8, i8 j (by omega) c ql]
          refine ih (by omega) (k + 1) (by omega) ?_
          intro i h1 h2
          by_cases z : i = j
          · rw [z]; exact q4
          · exact hne i (by omega) h2
      · rw [prv_n ql]
        refine ih (by omega) k (by omega) ?_
        intro i h1 h2
        by_cases z : i = j
        · rw [z]; intro z2; rw [z2] at ql; exact ql hc
        · exact hne i (by omega) h2
  rw [e_Prints_add, b_Prints_add_0, if_neg nz]
  simp (disch := omega) only [b_Prints_add_6, b_Prints_add_17, ↓reduceIte, nadd, nmul, nsub, nlt, neq, ncl, nvi, ndiv, nrem, exI, exJ, exV, eq_self, true_and, and_true, true_or, or_true, if_true, if_false, not_true, not_false_eq_true, false_and, and_false, decide_true, decide_false, bi_T, bi_F, bi_0, bi_1, bi_z, bft, n10, n01, Nat.reduceEqDiff, Nat.reduceLT, Nat.reduceAdd, Nat.reduceMul, reduceCtorEq, k0, i1, hlen, c_ntzL hm hc.1 hc.2]
  simp (disch := omega) only [b_Prints_add_21, ↓reduceIte, nadd, nmul, nsub, nlt, neq, ncl, nvi, ndiv, nrem, exI, exJ, exV, eq_self, true_and, and_true, true_or, or_true, if_true, if_false, not_true, not_false_eq_true, false_and, and_false, decide_true, decide_false, bi_T, bi_F, bi_0, bi_1, bi_z, bft, n10, n01, Nat.reduceEqDiff, Nat.reduceLT, Nat.reduceAdd, Nat.reduceMul, reduceCtorEq, k0, r7, k7, n7, hc64, i7 c hc64]
  exact seek n (Nat.le_refl _) 0 (by omega) (fun i h1 h2 => by omega)
end PAD
