/-! ===== who can hold what: the reference ===== -/
theorem nsubI {a b : Nat} (ha : a < 1000000) (hb : b < 1000000) : nI a - nI b = iI ((a : Int) - b) := by
  rw [fa_eq, iI_t (by omega) (by omega)]
  rw [fb_subI] <;> rw [nI_toInt (by omega), nI_toInt (by omega)] <;> omega
theorem nnegI {a : Nat} (ha : a < 1000000) : -(nI a) = iI (-(a : Int)) := by
  rw [fa_eq, iI_t (by omega) (by omega), fb_negI (by rw [nI_toInt (by omega)]; omega), nI_toInt (by omega)]
theorem near_sym (S : Nat → Nat → Nat) (b f o : Nat) : near S b f o = near S b o f := by
  unfold near adf
  rw [Bool.eq_iff_iff, decide_eq_true_iff, decide_eq_true_iff]
  omega
theorem ct_sp (s p : Nat → Bool) : ∀ n, fb_ct (fun f => s f && !p f) n + fb_ct (fun f => s f && p f) n = fb_ct s n
  | 0 => rfl
  | n + 1 => by
    rw [fb_ct_succ, fb_ct_succ, fb_ct_succ, ← ct_sp s p n]
    cases s n <;> cases p n <;> simp <;> omega
theorem ct_more {p : Nat → Bool} {k : Nat} : ∀ j, (∀ i, k ≤ i → p i = false) → fb_ct p (k + j) = fb_ct p k
  | 0, _ => rfl
  | j + 1, h => by
    rw [← Nat.add_assoc, fb_ct_succ, ct_more j h, h (k + j) (by omega)]
    rfl
theorem ct_6 {p : Nat → Bool} {k : Nat} (hk : k ≤ 6) (h : ∀ i, k ≤ i → p i = false) : fb_ct p 6 = fb_ct p k := by
  have := ct_more (p := p) (k := k) (6 - k) h
  rw [show k + (6 - k) = 6 by omega] at this
  exact this
theorem hset_sub {s m c h : Nat} : hset s m c h &&& s = hset s m c h := by
  rw [sub_bit]
  intro i hi
  unfold hset at hi
  rw [bl_bit] at hi
  simp only [Bool.and_eq_true] at hi
  exact hi.2.1
theorem hset_lt {s c h : Nat} : hset s 6 c h < 64 := bl_lt _ 6
theorem isH_cong {c1 c2 : Nat → Nat → Bool} {hp s c : Nat} (h : ∀ k q, k < 4 → q &&& s = q → q < 64 → c1 k q = c2 k q) : isH c1 hp s c = isH c2 hp s c := by
  unfold isH
  rw [h 0 _ (by decide) hset_sub hset_lt, h 1 _ (by decide) hset_sub hset_lt, h 2 _ (by decide) hset_sub hset_lt, h 3 _ (by decide) hset_sub hset_lt]
theorem hIn {c f : Nat} (hc : c < 4096) (hf : f < 6) : (nI c >>> ((nI 2 * (nI 5 - nI f)) &&& 31)) &&& nI 3 = nI (dg 6 c f) := by
  rw [nsub (by omega), nmul, nshr (by omega) (by omega), nand]
  congr 1
  unfold dg
  rw [show c >>> (2 * (5 - f)) &&& 3 = (c >>> (2 * (5 - f))) % 2 ^ 2 from Nat.and_two_pow_sub_one_eq_mod _ 2, Nat.shiftRight_eq_div_pow, Nat.pow_mul]
theorem dg_lt {c f : Nat} : dg 6 c f < 4 := Nat.mod_lt _ (by decide)
section MH
variable {d : Nat} {g : aG} {I : Nat → Nat → Int32} {J : Nat → Nat → Int64} {Q : aQ} {S : Nat → Nat → Nat} {T : Nat → Int32} {LF : aLF}
theorem c_isStill (hg : Geo g) (hB : SB S) (hM : MS S T (I 91)) {f b : Nat} (ho : sOn S f b = true) (hb : b < 12) : a_call aTab aMX (d + 4) m_Mo_isStill [.ref 89, .int (nI f), .int (nI b)] (g, I, J) Q = Q (some (.int (bi (sStay S f b)))) (g, I, J) := by
  have h6 := sb7 hB 0
  have hf := (sOn_lt ho).1
  rw [e_Mo_isStill]
  unfold sStay
  by_cases q0 : b = 0
  · rw [decide_eq_true (Or.inl q0), q0]
    simp (disch := omega) only [b_Mo_isStill_0, b_Mo_isStill_4, ↓reduceIte, nadd, nmul, nsub, nlt, neq, ncl, nvi, ndiv, nrem, exI, exJ, exV, eq_self, true_and, and_true, true_or, or_true, if_true, if_false, not_true, not_false_eq_true, false_and, and_false, decide_true, decide_false, bi_T, bi_F, bi_0, bi_1, bi_z, bft, n10, n01, Nat.reduceEqDiff, Nat.reduceLT, Nat.reduceAdd, Nat.reduceMul, reduceCtorEq]
  have hm : f * 12 + b - 1 = f * 12 + (b - 1) := by omega
  rw [hm]
  by_cases q1 : sOn S f (b - 1) = true
  · have h1 := (sOn_lt ho).2
    have h2 := (sOn_lt q1).2
    have l1 := sb11 hB (f * 12 + b)
    have l2 := sb11 hB (f * 12 + (b - 1))
    have l3 := sb12 hB (f * 12 + b)
    have l4 := sb12 hB (f * 12 + (b - 1))
    have l5 := sb13 hB (f * 12 + b)
    have l6 := sb13 hB (f * 12 + (b - 1))
    by_cases p1 : S 11 (f * 12 + b) = S 11 (f * 12 + (b - 1)) <;> by_cases p2 : S 12 (f * 12 + b) = S 12 (f * 12 + (b - 1)) <;> by_cases p3 : S 13 (f * 12 + b) = S 13 (f * 12 + (b - 1)) <;> simp (disch := omega) only [b_Mo_isStill_0, b_Mo_isStill_4, b_Mo_isStill_6 hg, b_Mo_isStill_14, b_Mo_isStill_18, b_Mo_isStill_24, b_Mo_isStill_28 hg, b_Mo_isStill_36 hg, b_Mo_isStill_46, b_Mo_isStill_49, b_Mo_isStill_53, b_Mo_isStill_54, b_Mo_isStill_61, ↓reduceIte, nadd, nmul, nsub, nlt, neq, ncl, nvi, ndiv, nrem, exI, exJ, exV, eq_self, true_and, and_true, true_or, or_true, if_true, if_false, not_true, not_false_eq_true, false_and, and_false, decide_true, decide_false, bi_T, bi_F, bi_0, bi_1, bi_z, bft, n10, n01, Nat.reduceEqDiff, Nat.reduceLT, Nat.reduceAdd, Nat.reduceMul, reduceCtorEq, c_mIsOn hg hB hM, c_placeOf hg, mp1 hM, mp2 hM, mp3 hM, ho, q0, q1, p1, p2, p3, false_or]
  · simp (disch := omega) only [b_Mo_isStill_0, b_Mo_isStill_4, b_Mo_isStill_6 hg, b_Mo_isStill_14, b_Mo_isStill_18, b_Mo_isStill_24, b_Mo_isStill_28 hg, b_Mo_isStill_36 hg, b_Mo_isStill_46, b_Mo_isStill_49, b_Mo_isStill_53, b_Mo_isStill_54, b_Mo_isStill_61, ↓reduceIte, nadd, nmul, nsub, nlt, neq, ncl, nvi, ndiv, nrem, exI, exJ, exV, eq_self, true_and, and_true, true_or, or_true, if_true, if_false, not_true, not_false_eq_true, false_and, and_false, decide_true, decide_false, bi_T, bi_F, bi_0, bi_1, bi_z, bft, n10, n01, Nat.reduceEqDiff, Nat.reduceLT, Nat.reduceAdd, Nat.reduceMul, reduceCtorEq, c_mIsOn hg hB hM, ho, q0, q1, false_or]
theorem c_isNear (hg : Geo g) (hB : SB S) (hM : MS S T (I 91)) {f o b : Nat} (hf : sOn S f b = true) (ho : sOn S o b = true) (hb : b < 12) : a_call aTab aMX (d + 3) m_Mo_isNear [.ref 89, .int (nI f), .int (nI o), .int (nI b)] (g, I, J) Q = Q (some (.int (bi (near S b f o)))) (g, I, J) := by
  have h6 := sb7 hB 0
  have ht := sb10 hB
  have f1 := sOn_lt hf
  have o1 := sOn_lt ho
  have l1 := sb11 hB (f * 12 + b)
  have l2 := sb11 hB (o * 12 + b)
  have l3 := mDp_le hB f b
  have l4 := mDp_le hB o b
  rw [e_Mo_isNear]
  simp (disch := omega) only [b_Mo_isNear_0 hg, b_Mo_isNear_7 hg, b_Mo_isNear_14 hg, b_Mo_isNear_23 hg, b_Mo_isNear_29 hg, b_Mo_isNear_40 hg, b_Mo_isNear_47, b_Mo_isNear_51, b_Mo_isNear_54 hg, b_Mo_isNear_63 hg, b_Mo_isNear_71, b_Mo_isNear_75, ↓reduceIte, exI, exJ, exV, eq_self, true_and, and_true, true_or, or_true, if_true, if_false, not_true, not_false_eq_true, false_and, and_false, decide_true, decide_false, bi_T, bi_F, bi_0, bi_1, bi_z, bft, n10, n01, Nat.reduceEqDiff, Nat.reduceLT, Nat.reduceAdd, Nat.reduceMul, reduceCtorEq, c_placeOf hg, c_deepOf hg hB hM, c_term hg, mp1 hM, ms2 hM, ms2r hM, nsubI, nnegI, nI_l, iI_l, c_in, ← lI_n, lI_lt]
  unfold near
  have e1 : (¬ (S 11 (f * 12 + b) : Int) - (S 11 (o * 12 + b) : Int) < -(S 10 5 : Int) ∧ ¬ (S 10 5 : Int) < (S 11 (f * 12 + b) : Int) - (S 11 (o * 12 + b) : Int)) ↔ adf (S 11 (f * 12 + b)) (S 11 (o * 12 + b)) ≤ S 10 5 := by unfold adf; omega
  have e2 : (¬ (mDp S f b : Int) - (mDp S o b : Int) < -(S 10 6 : Int) ∧ ¬ (S 10 6 : Int) < (mDp S f b : Int) - (mDp S o b : Int)) ↔ adf (mDp S f b) (mDp S o b) ≤ S 10 6 := by unfold adf; omega
  simp only [e1, e2]
  by_cases q1 : adf (S 11 (f * 12 + b)) (S 11 (o * 12 + b)) ≤ S 10 5 <;> by_cases q2 : adf (mDp S f b) (mDp S o b) ≤ S 10 6 <;> simp (disch := omega) only [b_Mo_isNear_78, b_Mo_isNear_82, b_Mo_isNear_83, ↓reduceIte, nadd, nmul, nsub, nlt, neq, ncl, nvi, ndiv, nrem, exI, exJ, exV, eq_self, true_and, and_true, true_or, or_true, if_true, if_false, not_true, not_false_eq_true, false_and, and_false, decide_true, decide_false, bi_T, bi_F, bi_0, bi_1, bi_z, bft, n10, n01, Nat.reduceEqDiff, Nat.reduceLT, Nat.reduceAdd, Nat.reduceMul, reduceCtorEq, q1, q2]
theorem c_mCanHold (hg : Geo g) (hB : SB S) (hM : MS S T (I 91)) {sc : Nat → Nat → Int32} (hL : LJ LF sc (I 91)) {h b s : Nat} (hh : h < 4) (hb : b < 12) (hs : s &&& sOns S b = s) (hQ : ∀ I' J', Xt I I' → Xj J J' → Q (some (.int (bi (canS S LF h b s)))) (g, I', J')) : a_call aTab aMX (d + 5) m_Mo_canHold [.ref 89, .int (nI h), .int (nI b), .int (nI s)] (g, I, J) Q := by
  have h6 := sb7 hB 0
  have ht := sb10 hB
  have ol := ons_lt hB b
  have hs64 : s < 64 := by have := sub_le hs; omega
  have hon : ∀ f, s.testBit f = true → sOn S f b = true := by
    intro f hf
    have := sub_bit.1 hs f hf
    rw [ons_bit hB (tb6 hs64 hf)] at this
    exact this
  have hbig : ∀ i, S 7 0 ≤ i → s.testBit i = false := fun i hi => Bool.eq_false_iff.2 (fun z => sOn_big hi (hon i z))
  have bad : ∀ k, k < 6 → s.testBit k = true → alw S LF h b k = false → canS S LF h b s = false := by
    intro k hk hb2 ha
    have e : aB (fun f => !s.testBit f || alw S LF h b f) 6 = false := Bool.eq_false_iff.2 (fun z => by
      have := aB_iff.1 z k hk
      rw [hb2, ha] at this
      cases this)
    unfold canS
    rw [e, Bool.false_and]
  rw [e_Mo_canHold, b_Mo_canHold_0]
  have key : ∀ k, k ≤ S 7 0 → (∀ f, f < k → s.testBit f = true → alw S LF h b f = true ∧ (h < 3 → ∀ o, o < f → s.testBit o = true → near S b f o = true)) → ∀ I2 J2, Xt I I2 → Xj J J2 → ∀ v7, a_wp aTab aMX (d + 4) m_Mo_canHold 9 [.ref 89, .int (nI h), .int (nI b), .int (nI s), .int (nI (fb_ct (fun f => s.testBit f && !decide (S 9 f = 2)) k)), .int (nI (fb_ct (fun f => s.testBit f && decide (S 9 f = 2)) k)), .int (nI k), v7] [] (g, I2, J2) Q := by
    refine dn ?_ ?_
    · intro hp I2 J2 g1 g2 v7
      have hM2 : MS S T (I2 91) := by rw [Xt_r g1 (by decide)]; exact hM
      have e1 : fb_ct (fun f => s.testBit f && !decide (S 9 f = 2)) (S 7 0) = oneS S s := (ct_6 h6 (fun i hi => by rw [hbig i hi]; rfl)).symm
      have e2 : fb_ct (fun f => s.testBit f && decide (S 9 f = 2)) (S 7 0) = twoS S s := (ct_6 h6 (fun i hi => by rw [hbig i hi]; rfl)).symm
      have hall : aB (fun f => !s.testBit f || alw S LF h b f) 6 = true := by
        rw [aB_iff]
        intro f hf
        cases q : s.testBit f
        · rfl
        · have : f < S 7 0 := by
            apply Classical.byContradiction
            intro z
            rw [hbig f (by omega)] at q
            cases q
          rw [(hp f this q).1]; rfl
      have l1 : oneS S s ≤ 6 := fb_ct_le _ 6
      have l2 : twoS S s ≤ 6 := fb_ct_le _ 6
      have ec : canS S LF h b s = (if h = 3 then decide (fb_ct s.testBit 6 ≤ S 10 4) else (hsf S s && tog S b s)) := by unfold canS; rw [hall, Bool.true_and]
      have hq := hQ I2 J2 g1 g2
      rw [ec] at hq
      rw [e1, e2]
      simp (disch := omega) only [b_Mo_canHold_9 hg, ↓reduceIte, nadd, nmul, nsub, nlt, neq, ncl, nvi, ndiv, nrem, exI, exJ, exV, eq_self, true_and, and_true, true_or, or_true, if_true, if_false, not_true, not_false_eq_true, false_and, and_false, decide_true, decide_false, bi_T, bi_F, bi_0, bi_1, bi_z, bft, n10, n01, Nat.reduceEqDiff, Nat.reduceLT, Nat.reduceAdd, Nat.reduceMul, reduceCtorEq, ms0 hM2, Nat.lt_irrefl]
      rw [b_Mo_canHold_160]
      by_cases q3 : h = 3
      · rw [if_pos q3] at hq
        have es : oneS S s + twoS S s = fb_ct s.testBit 6 := ct_sp s.testBit (fun f => decide (S 9 f = 2)) 6
        rw [← es] at hq
        simp (disch := omega) only [b_Mo_canHold_165 hg, b_Mo_canHold_175, ↓reduceIte, nadd, nmul, nsub, nlt, neq, ncl, nvi, ndiv, nrem, exI, exJ, exV, eq_self, true_and, and_true, true_or, or_true, if_true, if_false, not_true, not_false_eq_true, false_and, and_false, decide_true, decide_false, bi_T, bi_F, bi_0, bi_1, bi_z, bft, n10, n01, Nat.reduceEqDiff, Nat.reduceLT, Nat.reduceAdd, Nat.reduceMul, reduceCtorEq, c_term hg, ms2 hM2, ms2r hM2, q3]
        by_cases q4 : S 10 4 < oneS S s + twoS S s
        · rw [decide_eq_false (by omega)] at hq
          simp (disch := omega) only [b_Mo_canHold_182, b_Mo_canHold_183, ↓reduceIte, nadd, nmul, nsub, nlt, neq, ncl, nvi, ndiv, nrem, exI, exJ, exV, eq_self, true_and, and_true, true_or, or_true, if_true, if_false, not_true, not_false_eq_true, false_and, and_false, decide_true, decide_false, bi_T, bi_F, bi_0, bi_1, bi_z, bft, n10, n01, Nat.reduceEqDiff, Nat.reduceLT, Nat.reduceAdd, Nat.reduceMul, reduceCtorEq, q4]
          exact hq
        · rw [decide_eq_true (by omega)] at hq
          simp (disch := omega) only [b_Mo_canHold_178, b_Mo_canHold_183, ↓reduceIte, nadd, nmul, nsub, nlt, neq, ncl, nvi, ndiv, nrem, exI, exJ, exV, eq_self, true_and, and_true, true_or, or_true, if_true, if_false, not_true, not_false_eq_true, false_and, and_false, decide_true, decide_false, bi_T, bi_F, bi_0, bi_1, bi_z, bft, n10, n01, Nat.reduceEqDiff, Nat.reduceLT, Nat.reduceAdd, Nat.reduceMul, reduceCtorEq, q4]
          exact hq
      · rw [if_neg q3] at hq
        have htg : tog S b s = true := by
          unfold tog
          rw [aB_iff]
          intro f hf
          cases qf : s.testBit f
          · rfl
          show (false || _) = true
          rw [Bool.false_or, aB_iff]
          intro o ho
          cases qo : s.testBit o
          · rfl
          show (false || _) = true
          rw [Bool.false_or]
          have hfN : f < S 7 0 := by
            apply Classical.byContradiction
            intro z
            rw [hbig f (by omega)] at qf
            cases qf
          have hoN : o < S 7 0 := by
            apply Classical.byContradiction
            intro z
            rw [hbig o (by omega)] at qo
            cases qo
          by_cases c1 : o < f
          · exact (hp f hfN qf).2 (by omega) o c1 qo
          · by_cases c2 : f < o
            · rw [near_sym]
              exact (hp o hoN qo).2 (by omega) f c2 qf
            · rw [show o = f by omega]
              exact near_self S b f
        rw [htg, Bool.and_true] at hq
        unfold hsf at hq
        by_cases p1 : twoS S s = 0
        · rw [if_pos p1] at hq
          by_cases p2 : 2 + S 10 3 < oneS S s
          · rw [decide_eq_false (by omega)] at hq
            simp (disch := omega) only [b_Mo_canHold_184, b_Mo_canHold_189 hg, b_Mo_canHold_197, b_Mo_canHold_205, b_Mo_canHold_230, ↓reduceIte, nadd, nmul, nsub, nlt, neq, ncl, nvi, ndiv, nrem, exI, exJ, exV, eq_self, true_and, and_true, true_or, or_true, if_true, if_false, not_true, not_false_eq_true, false_and, and_false, decide_true, decide_false, bi_T, bi_F, bi_0, bi_1, bi_z, bft, n10, n01, Nat.reduceEqDiff, Nat.reduceLT, Nat.reduceAdd, Nat.reduceMul, reduceCtorEq, c_term hg, ms2 hM2, ms2r hM2, q3, p1, p2]
            exact hq
          · rw [decide_eq_true (by omega)] at hq
            simp (disch := omega) only [b_Mo_canHold_184, b_Mo_canHold_189 hg, b_Mo_canHold_197, b_Mo_canHold_201, b_Mo_canHold_230, ↓reduceIte, nadd, nmul, nsub, nlt, neq, ncl, nvi, ndiv, nrem, exI, exJ, exV, eq_self, true_and, and_true, true_or, or_true, if_true, if_false, not_true, not_false_eq_true, false_and, and_false, decide_true, decide_false, bi_T, bi_F, bi_0, bi_1, bi_z, bft, n10, n01, Nat.reduceEqDiff, Nat.reduceLT, Nat.reduceAdd, Nat.reduceMul, reduceCtorEq, c_term hg, ms2 hM2, ms2r hM2, q3, p1, p2]
            exact hq
        · rw [if_neg p1] at hq
          by_cases p3 : twoS S s = 1
          · by_cases p2 : S 10 3 < oneS S s
            · rw [decide_eq_false (by omega)] at hq
              simp (disch := omega) only [b_Mo_canHold_184, b_Mo_canHold_209, b_Mo_canHold_215 hg, b_Mo_canHold_222, b_Mo_canHold_229, b_Mo_canHold_230, ↓reduceIte, nadd, nmul, nsub, nlt, neq, ncl, nvi, ndiv, nrem, exI, exJ, exV, eq_self, true_and, and_true, true_or, or_true, if_true, if_false, not_true, not_false_eq_true, false_and, and_false, decide_true, decide_false, bi_T, bi_F, bi_0, bi_1, bi_z, bft, n10, n01, Nat.reduceEqDiff, Nat.reduceLT, Nat.reduceAdd, Nat.reduceMul, reduceCtorEq, c_term hg, ms2 hM2, ms2r hM2, q3, p3, p2, Nat.one_ne_zero]
              exact hq
            · rw [decide_eq_true (by omega)] at hq
              simp (disch := omega) only [b_Mo_canHold_184, b_Mo_canHold_209, b_Mo_canHold_215 hg, b_Mo_canHold_222, b_Mo_canHold_225, b_Mo_canHold_230, ↓reduceIte, nadd, nmul, nsub, nlt, neq, ncl, nvi, ndiv, nrem, exI, exJ, exV, eq_self, true_and, and_true, true_or, or_true, if_true, if_false, not_true, not_false_eq_true, false_and, and_false, decide_true, decide_false, bi_T, bi_F, bi_0, bi_1, bi_z, bft, n10, n01, Nat.reduceEqDiff, Nat.reduceLT, Nat.reduceAdd, Nat.reduceMul, reduceCtorEq, c_term hg, ms2 hM2, ms2r hM2, q3, p3, p2, Nat.one_ne_zero]
              exact hq
          · rw [decide_eq_false (by omega)] at hq
            simp (disch := omega) only [b_Mo_canHold_184, b_Mo_canHold_209, b_Mo_canHold_229, b_Mo_canHold_230, ↓reduceIte, nadd, nmul, nsub, nlt, neq, ncl, nvi, ndiv, nrem, exI, exJ, exV, eq_self, true_and, and_true, true_or, or_true, if_true, if_false, not_true, not_false_eq_true, false_and, and_false, decide_true, decide_false, bi_T, bi_F, bi_0, bi_1, bi_z, bft, n10, n01, Nat.reduceEqDiff, Nat.reduceLT, Nat.reduceAdd, Nat.reduceMul, reduceCtorEq, q3, p1, p3]
            exact hq
    · intro k hk ih hp I2 J2 g1 g2 v7
      have hM2 : MS S T (I2 91) := by rw [Xt_r g1 (by decide)]; exact hM
      have hL2 : LJ LF sc (I2 91) := by rw [Xt_r g1 (by decide)]; exact hL
      rw [fb_ct_succ, fb_ct_succ] at ih
      rw [b_Mo_canHold_9 hg]
      simp (disch := omega) only [b_Mo_canHold_20, ↓reduceIte, nadd, nmul, nsub, nlt, neq, ncl, nvi, ndiv, nrem, exI, exJ, exV, eq_self, true_and, and_true, true_or, or_true, if_true, if_false, not_true, not_false_eq_true, false_and, and_false, decide_true, decide_false, bi_T, bi_F, bi_0, bi_1, bi_z, bft, n10, n01, Nat.reduceEqDiff, Nat.reduceLT, Nat.reduceAdd, Nat.reduceMul, reduceCtorEq, ms0 hM2, hk, c_is, bt_nI]
      by_cases qs : s.testBit k = true
      rotate_left
      · rw [Bool.eq_false_iff.2 qs] at ih
        simp (disch := omega) only [b_Mo_canHold_26, b_Mo_canHold_154, ↓reduceIte, nadd, nmul, nsub, nlt, neq, ncl, nvi, ndiv, nrem, exI, exJ, exV, eq_self, true_and, and_true, true_or, or_true, if_true, if_false, not_true, not_false_eq_true, false_and, and_false, decide_true, decide_false, bi_T, bi_F, bi_0, bi_1, bi_z, bft, n10, n01, Nat.reduceEqDiff, Nat.reduceLT, Nat.reduceAdd, Nat.reduceMul, reduceCtorEq, qs]
        refine ih ?_ I2 J2 g1 g2 _
        intro f hf hfs
        by_cases q : f = k
        · rw [q] at hfs; exact absurd hfs qs
        · exact hp f (by omega) hfs
      have hok := hon k qs
      have h9 := sb9 hB k
      have h9p := sb9p hB hk
      have hk6 : k < 6 := by omega
      -- behind the counts
      have rest : ∀ c1 c2 : Nat, c1 = fb_ct (fun f => s.testBit f && !decide (S 9 f = 2)) k + (if (s.testBit k && !decide (S 9 k = 2)) then 1 else 0) → ∀ (x y : Nat), x + y = c2 → c2 = fb_ct (fun f => s.testBit f && decide (S 9 f = 2)) k + (if (s.testBit k && decide (S 9 k = 2)) then 1 else 0) → ∀ v5 v7, a_wp aTab aMX (d + 4) m_Mo_canHold 74 [.ref 89, .int (nI h), .int (nI b), .int (nI s), .int (nI c1), v5, .int (nI k), v7] [.int (nI y), .int (nI x)] (g, I2, J2) Q := by
        intro c1 c2 e1 x y exy e2 v5 v7
        rw [b_Mo_canHold_74 hg, nadd, exy, show (-1 : Int32) = iI (-1) by decide]
        refine c_tells hg hB hM2 hL2 (head := 3) hok hb (by omega) (by omega) (by omega) (by decide) (by decide) (by decide) (by decide) ?_
        intro I3 J3 r1 r2
        refine ⟨_, rfl, ?_⟩
        have f1 := Xt_tr g1 r1
        have f2 := Xj_tr g2 r2
        have hM3 : MS S T (I3 91) := by rw [Xt_r f1 (by decide)]; exact hM
        have tl1 : tl LF 3 (env S k b h (-1)) 1 0 ≤ 1 := by unfold tl clp; split <;> omega
        by_cases qt : tl LF 3 (env S k b h (-1)) 1 0 = 0
        rotate_left
        · have ha : alw S LF h b k = false := by unfold alw; rw [decide_eq_false qt, Bool.and_false, Bool.and_false]
          have hq := hQ I3 J3 f1 f2
          rw [bad k hk6 qs ha] at hq
          have : tl LF 3 (env S k b h (-1)) 1 0 = 1 := by omega
          simp (disch := omega) only [b_Mo_canHold_89, b_Mo_canHold_108, ↓reduceIte, nadd, nmul, nsub, nlt, neq, ncl, nvi, ndiv, nrem, exI, exJ, exV, eq_self, true_and, and_true, true_or, or_true, if_true, if_false, not_true, not_false_eq_true, false_and, and_false, decide_true, decide_false, bi_T, bi_F, bi_0, bi_1, bi_z, bft, n10, n01, Nat.reduceEqDiff, Nat.reduceLT, Nat.reduceAdd, Nat.reduceMul, reduceCtorEq, this]
          exact hq
        -- behind the law and the place
        have beh : alw S LF h b k = true → a_wp aTab aMX (d + 4) m_Mo_canHold 110 [.ref 89, .int (nI h), .int (nI b), .int (nI s), .int (nI c1), .int (nI c2), .int (nI k), aU] [] (g, I3, J3) Q := by
          intro ha
          rw [b_Mo_canHold_110]
          have inner : ∀ o, o ≤ k → (h < 3 → ∀ o2, o2 < o → s.testBit o2 = true → near S b k o2 = true) → a_wp aTab aMX (d + 4) m_Mo_canHold 113 [.ref 89, .int (nI h), .int (nI b), .int (nI s), .int (nI c1), .int (nI c2), .int (nI k), .int (nI o)] [] (g, I3, J3) Q := by
            refine dn ?_ ?_
            · intro hn
              simp (disch := omega) only [b_Mo_canHold_113, b_Mo_canHold_154, ↓reduceIte, nadd, nmul, nsub, nlt, neq, ncl, nvi, ndiv, nrem, exI, exJ, exV, eq_self, true_and, and_true, true_or, or_true, if_true, if_false, not_true, not_false_eq_true, false_and, and_false, decide_true, decide_false, bi_T, bi_F, bi_0, bi_1, bi_z, bft, n10, n01, Nat.reduceEqDiff, Nat.reduceLT, Nat.reduceAdd, Nat.reduceMul, reduceCtorEq, Nat.lt_irrefl]
              rw [e1, e2]
              refine ih ?_ I3 J3 f1 f2 _
              intro f hf hfs
              by_cases q : f = k
              · rw [q]; exact ⟨ha, hn⟩
              · exact hp f (by omega) hfs
            · intro o ho iho hn
              rw [b_Mo_canHold_113]
              by_cases q3 : h < 3
              · by_cases qo : s.testBit o = true
                · cases qn : near S b k o
                  · have : tog S b s = false := by
                      apply Bool.eq_false_iff.2
                      intro z
                      unfold tog at z
                      have z := aB_iff.1 z k hk6
                      rw [qs] at z
                      have z : aB (fun o => !s.testBit o || near S b k o) 6 = true := z
                      have z := aB_iff.1 z o (by omega)
                      rw [qo, qn] at z
                      cases z
                    have hq := hQ I3 J3 f1 f2
                    rw [show canS S LF h b s = false by unfold canS; rw [if_neg (by omega), this, Bool.and_false, Bool.and_false]] at hq
                    simp (disch := omega) only [b_Mo_canHold_120, b_Mo_canHold_125, b_Mo_canHold_131, b_Mo_canHold_134 hg, b_Mo_canHold_143, b_Mo_canHold_146, ↓reduceIte, nadd, nmul, nsub, nlt, neq, ncl, nvi, ndiv, nrem, exI, exJ, exV, eq_self, true_and, and_true, true_or, or_true, if_true, if_false, not_true, not_false_eq_true, false_and, and_false, decide_true, decide_false, bi_T, bi_F, bi_0, bi_1, bi_z, bft, n10, n01, Nat.reduceEqDiff, Nat.reduceLT, Nat.reduceAdd, Nat.reduceMul, reduceCtorEq, ho, q3, c_is, bt_nI, qo, c_isNear hg hB hM3 hok (hon o qo) hb, qn]
                    exact hq
                  · simp (disch := omega) only [b_Mo_canHold_120, b_Mo_canHold_125, b_Mo_canHold_131, b_Mo_canHold_134 hg, b_Mo_canHold_143, b_Mo_canHold_148, ↓reduceIte, nadd, nmul, nsub, nlt, neq, ncl, nvi, ndiv, nrem, exI, exJ, exV, eq_self, true_and, and_true, true_or, or_true, if_true, if_false, not_true, not_false_eq_true, false_and, and_false, decide_true, decide_false, bi_T, bi_F, bi_0, bi_1, bi_z, bft, n10, n01, Nat.reduceEqDiff, Nat.reduceLT, Nat.reduceAdd, Nat.reduceMul, reduceCtorEq, ho, q3, c_is, bt_nI, qo, c_isNear hg hB hM3 hok (hon o qo) hb, qn]
                    refine iho (fun h3 o2 ho2 hs2 => ?_)
                    by_cases q : o2 = o
                    · rw [q]; exact qn
                    · exact hn h3 o2 (by omega) hs2
                · simp (disch := omega) only [b_Mo_canHold_120, b_Mo_canHold_125, b_Mo_canHold_131, b_Mo_canHold_148, ↓reduceIte, nadd, nmul, nsub, nlt, neq, ncl, nvi, ndiv, nrem, exI, exJ, exV, eq_self, true_and, and_true, true_or, or_true, if_true, if_false, not_true, not_false_eq_true, false_and, and_false, decide_true, decide_false, bi_T, bi_F, bi_0, bi_1, bi_z, bft, n10, n01, Nat.reduceEqDiff, Nat.reduceLT, Nat.reduceAdd, Nat.reduceMul, reduceCtorEq, ho, q3, c_is, bt_nI, qo]
                  refine iho (fun h3 o2 ho2 hs2 => ?_)
                  by_cases q : o2 = o
                  · rw [q] at hs2; exact absurd hs2 qo
                  · exact hn h3 o2 (by omega) hs2
              · simp (disch := omega) only [b_Mo_canHold_120, b_Mo_canHold_148, ↓reduceIte, nadd, nmul, nsub, nlt, neq, ncl, nvi, ndiv, nrem, exI, exJ, exV, eq_self, true_and, and_true, true_or, or_true, if_true, if_false, not_true, not_false_eq_true, false_and, and_false, decide_true, decide_false, bi_T, bi_F, bi_0, bi_1, bi_z, bft, n10, n01, Nat.reduceEqDiff, Nat.reduceLT, Nat.reduceAdd, Nat.reduceMul, reduceCtorEq, ho, q3]
                exact iho (fun h3 => absurd h3 q3)
          exact inner 0 (by omega) (fun _ o2 ho2 => absurd ho2 (by omega))
        have ne01 : ¬ 0 = 1 := by omega
        rw [qt]
        by_cases q3 : h = 3
        · cases qst : sStay S k b
          · have ha : alw S LF h b k = false := by unfold alw; rw [qst, decide_eq_false (show ¬ h ≠ 3 from fun z => z q3)]; simp
            have hq := hQ I3 J3 f1 f2
            rw [bad k hk6 qs ha] at hq
            simp (disch := omega) only [b_Mo_canHold_89, b_Mo_canHold_93, b_Mo_canHold_98 hg, b_Mo_canHold_105, b_Mo_canHold_108, ↓reduceIte, nadd, nmul, nsub, nlt, neq, ncl, nvi, ndiv, nrem, exI, exJ, exV, eq_self, true_and, and_true, true_or, or_true, if_true, if_false, not_true, not_false_eq_true, false_and, and_false, decide_true, decide_false, bi_T, bi_F, bi_0, bi_1, bi_z, bft, n10, n01, Nat.reduceEqDiff, Nat.reduceLT, Nat.reduceAdd, Nat.reduceMul, reduceCtorEq, ne01, q3, c_isStill hg hB hM3 hok hb, qst]
            exact hq
          · have ha : alw S LF h b k = true := by unfold alw; rw [hok, qst, qt]; simp
            have := beh ha
            simp (disch := omega) only [b_Mo_canHold_89, b_Mo_canHold_93, b_Mo_canHold_98 hg, b_Mo_canHold_105, ↓reduceIte, nadd, nmul, nsub, nlt, neq, ncl, nvi, ndiv, nrem, exI, exJ, exV, eq_self, true_and, and_true, true_or, or_true, if_true, if_false, not_true, not_false_eq_true, false_and, and_false, decide_true, decide_false, bi_T, bi_F, bi_0, bi_1, bi_z, bft, n10, n01, Nat.reduceEqDiff, Nat.reduceLT, Nat.reduceAdd, Nat.reduceMul, reduceCtorEq, ne01, q3, c_isStill hg hB hM3 hok hb, qst]
            rw [q3] at this
            exact this
        · have ha : alw S LF h b k = true := by unfold alw; rw [hok, qt, decide_eq_true q3]; simp
          have := beh ha
          simp (disch := omega) only [b_Mo_canHold_89, b_Mo_canHold_93, ↓reduceIte, nadd, nmul, nsub, nlt, neq, ncl, nvi, ndiv, nrem, exI, exJ, exV, eq_self, true_and, and_true, true_or, or_true, if_true, if_false, not_true, not_false_eq_true, false_and, and_false, decide_true, decide_false, bi_T, bi_F, bi_0, bi_1, bi_z, bft, n10, n01, Nat.reduceEqDiff, Nat.reduceLT, Nat.reduceAdd, Nat.reduceMul, reduceCtorEq, ne01, q3]
          exact this
      by_cases q2 : S 9 k = 2
      · have n1 : ¬ S 9 k = 1 := by omega
        simp (disch := omega) only [b_Mo_canHold_26, b_Mo_canHold_29 hg, b_Mo_canHold_49, b_Mo_canHold_50 hg, b_Mo_canHold_69, ↓reduceIte, nadd, nmul, nsub, nlt, neq, ncl, nvi, ndiv, nrem, exI, exJ, exV, eq_self, true_and, and_true, true_or, or_true, if_true, if_false, not_true, not_false_eq_true, false_and, and_false, decide_true, decide_false, bi_T, bi_F, bi_0, bi_1, bi_z, bft, n10, n01, Nat.reduceEqDiff, Nat.reduceLT, Nat.reduceAdd, Nat.reduceMul, reduceCtorEq, qs, ms10 hM2, q2, Nat.add_zero]
        refine rest _ _ ?_ _ _ rfl ?_ _ _
        · rw [qs, decide_eq_true q2]; rfl
        · rw [qs, decide_eq_true q2]; rfl
      · have n1 : S 9 k = 1 := by omega
        simp (disch := omega) only [b_Mo_canHold_26, b_Mo_canHold_29 hg, b_Mo_canHold_45, b_Mo_canHold_50 hg, b_Mo_canHold_73, ↓reduceIte, nadd, nmul, nsub, nlt, neq, ncl, nvi, ndiv, nrem, exI, exJ, exV, eq_self, true_and, and_true, true_or, or_true, if_true, if_false, not_true, not_false_eq_true, false_and, and_false, decide_true, decide_false, bi_T, bi_F, bi_0, bi_1, bi_z, bft, n10, n01, Nat.reduceEqDiff, Nat.reduceLT, Nat.reduceAdd, Nat.reduceMul, reduceCtorEq, qs, ms10 hM2, n1]
        refine rest _ _ ?_ _ _ rfl ?_ _ _
        · rw [qs, decide_eq_false q2]; rfl
        · rw [qs, decide_eq_false q2]; rfl
  exact key 0 (by omega) (fun f hf => absurd hf (by omega)) I J Xt_rf Xj_rf _
end MH
