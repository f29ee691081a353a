/-! ===== holdings: all of them, the first beat without, the core ===== -/
theorem r41 {g : aG} (hg : Geo g) {n : Nat} (h : n < 2) : gR g 41 n = 42 + n ∧ gK g (42 + n) = 12 ∧ gN g (42 + n) = 64 := by
  have : n = 0 ∨ n = 1 := by omega
  rcases this with rfl | rfl
  · exact ⟨r_41_0 hg, k_42 hg, n_42 hg⟩
  · exact ⟨r_41_1 hg, k_43 hg, n_43 hg⟩
theorem lbit2 {n m p q : Nat} (hn : n < 18446744073709551616) (hm : m < 18446744073709551616) (hp : p < 64) (hq : q < 64) : (((lN n).toUInt64 >>> ((nI p).toInt64.toUInt64 &&& Int64.toUInt64 63)).toInt64 &&& ((lN m).toUInt64 >>> ((nI q).toInt64.toUInt64 &&& Int64.toUInt64 63)).toInt64) &&& lN 1 = lN (n.testBit p && m.testBit q).toNat := by
  rw [wb_shr (by omega) hp, wb_shr (by omega) hq, fb_andL, fb_andL]
  congr 1
  have e1 : n.testBit p = (n / 2 ^ p).testBit 0 := by rw [← Nat.shiftRight_eq_div_pow, Nat.testBit_shiftRight, Nat.add_zero]
  have e2 : m.testBit q = (m / 2 ^ q).testBit 0 := by rw [← Nat.shiftRight_eq_div_pow, Nat.testBit_shiftRight, Nat.add_zero]
  rw [e1, e2, ← Nat.testBit_and, Nat.and_one_is_mod, Nat.testBit_zero]
  rcases Nat.mod_two_eq_zero_or_one (n / 2 ^ p &&& m / 2 ^ q) with h | h <;> rw [h] <;> rfl
def wv (can : Nat → Nat → Bool) (hp k : Nat) : Nat → Nat := if k ≤ 3 then wH can (min k hp) else hn can hp
theorem wv_s {can : Nat → Nat → Bool} {hp k : Nat} (hk : k < 4) (h : k < hp ∨ k = 3) (hh : hp ≤ 3) : wv can hp (k + 1) = conv (fun q => (can k q).toNat) (wv can hp k) := by
  unfold wv
  by_cases q : k = 3
  · subst q
    rw [if_neg (by omega), if_pos (by omega), show min 3 hp = hp by omega]
    rfl
  · rw [if_pos (by omega), if_pos (by omega), show min (k + 1) hp = k + 1 by omega, show min k hp = k by omega]
    rfl
theorem wv_n {can : Nat → Nat → Bool} {hp k : Nat} (h : ¬ (k < hp ∨ k = 3)) (hk : k < 4) : wv can hp (k + 1) = wv can hp k := by
  unfold wv
  rw [if_pos (by omega), if_pos (by omega), show min (k + 1) hp = min k hp by omega]
section HA
variable {d : Nat} {g : aG} {I : Nat → Nat → Int32} {J : Nat → Nat → Int64} {Q : aQ} {S : Nat → Nat → Nat} {LF : aLF}
theorem c_waysOfAll (hg : Geo g) (hB : SB S) {b hp : Nat} (hb : b < 12) (hh : hp ≤ 3) (hH : HB S LF I J b) (hQ : ∀ I', Fr [42, 43] I I' → Q (some (.int (nI (hN S LF hp b (sOns S b))))) (g, I', J)) : a_call aTab aMX (d + 2) m_Hands_waysOfAll [.ref 36, .int (nI b), .int (nI hp)] (g, I, J) Q := by
  have ol := ons_lt hB b
  have a0 := r41 hg (show 0 < 2 by decide)
  rw [e_Hands_waysOfAll, b_Hands_waysOfAll_0 hg, c_fillI (k_42 hg) (n_42 hg) (by decide)]
  simp only [exV]
  have key : ∀ k, k ≤ 4 → ∀ nw, nw < 2 → ∀ I2, Fr [42, 43] I I2 → (∀ r, r &&& sOns S b = r → I2 (42 + nw) r = nI (wv (fun h s => canS S LF h b s) hp k r)) → a_wp aTab aMX (d + 1) m_Hands_waysOfAll 24 [.ref 36, .int (nI b), .int (nI hp), .int (nI nw), .int (nI k)] [] (g, I2, J) Q := by
    refine dn ?_ ?_
    · intro nw hnw I2 g1 g2
      have a1 := r41 hg hnw
      have e38 : I2 38 b = nI (sOns S b) := by rw [Fr_at g1 38 (by decide)]; exact hH.1
      have e := g2 (sOns S b) (Nat.and_self _)
      rw [show wv (fun h s => canS S LF h b s) hp 4 = hn (fun h s => canS S LF h b s) hp from if_neg (by omega)] at e
      simp (disch := omega) only [b_Hands_waysOfAll_24, b_Hands_waysOfAll_86 hg, ↓reduceIte, nadd, nmul, nsub, nlt, neq, ncl, nvi, ndiv, nrem, exI, exJ, exV, eq_self, true_and, and_true, true_or, or_true, if_true, if_false, not_true, not_false_eq_true, false_and, and_false, decide_true, decide_false, bi_T, bi_F, bi_0, bi_1, bi_z, bft, n10, n01, Nat.reduceEqDiff, Nat.reduceLT, Nat.reduceAdd, Nat.reduceMul, reduceCtorEq, Nat.lt_irrefl, a1.1, a1.2.1, a1.2.2, e38, e]
      exact hQ I2 g1
    · intro k hk ih nw hnw I2 g1 g2
      have a1 := r41 hg hnw
      have a2 := r41 hg (show 1 - nw < 2 by omega)
      have e38 : I2 38 b = nI (sOns S b) := by rw [Fr_at g1 38 (by decide)]; exact hH.1
      rw [b_Hands_waysOfAll_24]
      by_cases q : k < hp ∨ k = 3
      · have go : a_wp aTab aMX (d + 1) m_Hands_waysOfAll 42 [.ref 36, .int (nI b), .int (nI hp), .int (nI nw), .int (nI k)] [] (g, I2, J) Q := by
          rw [b_Hands_waysOfAll_42 hg]
          simp (disch := omega) only [↓reduceIte, nadd, nmul, nsub, nlt, neq, ncl, nvi, ndiv, nrem, exI, exJ, exV, eq_self, true_and, and_true, true_or, or_true, if_true, if_false, not_true, not_false_eq_true, false_and, and_false, decide_true, decide_false, bi_T, bi_F, bi_0, bi_1, bi_z, bft, n10, n01, Nat.reduceEqDiff, Nat.reduceLT, Nat.reduceAdd, Nat.reduceMul, reduceCtorEq, a1.1, a2.1, e38, hH.2 k hk]
          refine c_spreadWays (w := wv (fun h s => canS S LF h b s) hp k) (bl64 _) ol (by omega) a1.2.1 a1.2.2 a2.2.1 a2.2.2 g2 ?_
          intro I3 r1 r2
          refine ⟨rfl, ?_⟩
          simp (disch := omega) only [b_Hands_waysOfAll_76, b_Hands_waysOfAll_80, ↓reduceIte, nadd, nmul, nsub, nlt, neq, ncl, nvi, ndiv, nrem, exI, exJ, exV, eq_self, true_and, and_true, true_or, or_true, if_true, if_false, not_true, not_false_eq_true, false_and, and_false, decide_true, decide_false, bi_T, bi_F, bi_0, bi_1, bi_z, bft, n10, n01, Nat.reduceEqDiff, Nat.reduceLT, Nat.reduceAdd, Nat.reduceMul, reduceCtorEq]
          refine ih (1 - nw) (by omega) I3 ?_ ?_
          · intro a ha
            rw [r1 a (fun z => ha (by simp at z ⊢; omega))]
            exact g1 a ha
          · intro r hr
            rw [r2 r hr, wv_s hk q hh]
            congr 1
            have hr64 : r < 64 := by have := sub_le hr; omega
            exact conv_cong (fun q hq => by rw [bl64b _ hq]) (fun _ _ => rfl) hr64
        by_cases q1 : k < hp
        · simp (disch := omega) only [b_Hands_waysOfAll_30, ↓reduceIte, nadd, nmul, nsub, nlt, neq, ncl, nvi, ndiv, nrem, exI, exJ, exV, eq_self, true_and, and_true, true_or, or_true, if_true, if_false, not_true, not_false_eq_true, false_and, and_false, decide_true, decide_false, bi_T, bi_F, bi_0, bi_1, bi_z, bft, n10, n01, Nat.reduceEqDiff, Nat.reduceLT, Nat.reduceAdd, Nat.reduceMul, reduceCtorEq, hk, q1]
          exact go
        · have q2 : k = 3 := by omega
          simp (disch := omega) only [b_Hands_waysOfAll_30, b_Hands_waysOfAll_36, ↓reduceIte, nadd, nmul, nsub, nlt, neq, ncl, nvi, ndiv, nrem, exI, exJ, exV, eq_self, true_and, and_true, true_or, or_true, if_true, if_false, not_true, not_false_eq_true, false_and, and_false, decide_true, decide_false, bi_T, bi_F, bi_0, bi_1, bi_z, bft, n10, n01, Nat.reduceEqDiff, Nat.reduceLT, Nat.reduceAdd, Nat.reduceMul, reduceCtorEq, hk, q1]
          rw [if_pos q2]
          exact go
      · rw [wv_n q hk] at ih
        have q1 : ¬ k < hp := by omega
        have q2 : ¬ k = 3 := by omega
        simp (disch := omega) only [b_Hands_waysOfAll_30, b_Hands_waysOfAll_36, b_Hands_waysOfAll_80, ↓reduceIte, nadd, nmul, nsub, nlt, neq, ncl, nvi, ndiv, nrem, exI, exJ, exV, eq_self, true_and, and_true, true_or, or_true, if_true, if_false, not_true, not_false_eq_true, false_and, and_false, decide_true, decide_false, bi_T, bi_F, bi_0, bi_1, bi_z, bft, n10, n01, Nat.reduceEqDiff, Nat.reduceLT, Nat.reduceAdd, Nat.reduceMul, reduceCtorEq, hk, q1, q2]
        exact ih nw hnw I2 g1 g2
  simp (disch := omega) only [b_Hands_waysOfAll_12 hg, ↓reduceIte, nadd, nmul, nsub, nlt, neq, ncl, nvi, ndiv, nrem, exI, exJ, exV, eq_self, true_and, and_true, true_or, or_true, if_true, if_false, not_true, not_false_eq_true, false_and, and_false, decide_true, decide_false, bi_T, bi_F, bi_0, bi_1, bi_z, bft, n10, n01, Nat.reduceEqDiff, Nat.reduceLT, Nat.reduceAdd, Nat.reduceMul, reduceCtorEq, a0.1, a0.2.1, a0.2.2]
  refine key 0 (by omega) 0 (by omega) _ (Fr_u (by decide) (Fr_fl (by decide) Fr_rf)) ?_
  intro r hr
  have hr64 : r < 64 := by have := sub_le hr; omega
  show u2 (fl2 I 42 0 64 (nI 0)) 42 0 (nI 1) 42 r = nI (wH (fun h s => canS S LF h b s) (min 0 hp) r)
  rw [show min 0 hp = 0 by omega]
  show _ = nI (if r = 0 then 1 else 0)
  by_cases q : r = 0
  · rw [if_pos q, q, u2_s]
  · rw [if_neg q, u2_k q, fl2_in (by omega) hr64]
theorem c_spread {m n wi : Nat} {w : Nat → Nat} (hm : m < 18446744073709551616) (hn : n < 18446744073709551616) (hw : wi < 64) (hm2 : ∀ r, r &&& wi = r → m.testBit r = decide (0 < w r)) (hQ : ∀ m2, m2 < 18446744073709551616 → (∀ r, r &&& wi = r → m2.testBit r = decide (0 < conv (fun q => (n.testBit q).toNat) w r)) → Q (some (.long (lN m2))) (g, I, J)) : a_call aTab aMX (d + 1) m_Hands_spread [.long (lN m), .long (lN n), .int (nI wi)] (g, I, J) Q := by
  rw [e_Hands_spread, b_Hands_spread_0]
  have key : ∀ s, s ≤ wi + 1 → ∀ v8 v9, a_wp aTab aMX d m_Hands_spread 6 [.long (lN m), aU, .long (lN n), aU, .int (nI wi), .long (lN (bl (fun r => decide (r &&& wi = r) && decide (0 < conv (fun q => (n.testBit q).toNat) w r)) s)), aU, .int (nI s), v8, v9] [] (g, I, J) Q := by
    refine dn ?_ ?_
    · intro v8 v9
      have q : wi < wi + 1 := by omega
      simp (disch := omega) only [b_Hands_spread_6, b_Hands_spread_97, ↓reduceIte, nadd, nmul, nsub, nlt, neq, ncl, nvi, ndiv, nrem, exI, exJ, exV, eq_self, true_and, and_true, true_or, or_true, if_true, if_false, not_true, not_false_eq_true, false_and, and_false, decide_true, decide_false, bi_T, bi_F, bi_0, bi_1, bi_z, bft, n10, n01, Nat.reduceEqDiff, Nat.reduceLT, Nat.reduceAdd, Nat.reduceMul, reduceCtorEq, q]
      refine hQ _ (Nat.lt_of_lt_of_le (bl_lt _ (wi + 1)) (show 2 ^ (wi + 1) ≤ 2 ^ 64 from Nat.pow_le_pow_right (by decide) (by omega))) ?_
      intro r hr
      have := sub_le hr
      rw [bl_bit, decide_eq_true (show r < wi + 1 by omega), decide_eq_true hr]
      rfl
    · intro s hs ih v8 v9
      have q : ¬ wi < s := by omega
      generalize hP : (fun r => decide (r &&& wi = r) && decide (0 < conv (fun q => (n.testBit q).toNat) w r)) = P at ih ⊢
      have eb : bl P (s + 1) = if P s then bl P s ||| 1 <<< s else bl P s := rfl
      have ePs : P s = (decide (s &&& wi = s) && decide (0 < conv (fun q => (n.testBit q).toNat) w s)) := by rw [← hP]
      rw [eb, ePs] at ih
      simp (disch := omega) only [b_Hands_spread_6, b_Hands_spread_13, ↓reduceIte, nadd, nmul, nsub, nlt, neq, ncl, nvi, ndiv, nrem, exI, exJ, exV, eq_self, true_and, and_true, true_or, or_true, if_true, if_false, not_true, not_false_eq_true, false_and, and_false, decide_true, decide_false, bi_T, bi_F, bi_0, bi_1, bi_z, bft, n10, n01, Nat.reduceEqDiff, Nat.reduceLT, Nat.reduceAdd, Nat.reduceMul, reduceCtorEq, q]
      by_cases q1 : s &&& wi = s
      rotate_left
      · rw [decide_eq_false q1, Bool.false_and, if_neg (by decide)] at ih
        rw [b_Hands_spread_20]
        simp (disch := omega) only [b_Hands_spread_27, b_Hands_spread_91, ↓reduceIte, nadd, nmul, nsub, nlt, neq, ncl, nvi, ndiv, nrem, exI, exJ, exV, eq_self, true_and, and_true, true_or, or_true, if_true, if_false, not_true, not_false_eq_true, false_and, and_false, decide_true, decide_false, bi_T, bi_F, bi_0, bi_1, bi_z, bft, n10, n01, Nat.reduceEqDiff, Nat.reduceLT, Nat.reduceAdd, Nat.reduceMul, reduceCtorEq, nsubm, q1]
        exact ih _ _
      rw [decide_eq_true q1, Bool.true_and] at ih
      have inner : ∀ p, p ≤ s → p &&& s = p → ∀ k : Nat, k + p ≤ s → prt (fun q => (n.testBit q).toNat) w s p = conv (fun q => (n.testBit q).toNat) w s → a_wp aTab aMX d m_Hands_spread 20 [.long (lN m), aU, .long (lN n), aU, .int (nI wi), .long (lN (bl P s)), aU, .int (nI s), .int (nI p), .int (nI k)] [] (g, I, J) Q := by
        intro p
        induction p using Nat.strongRecOn with
        | ind p ihp =>
          intro hps hpb k hk hx
          have q2 : k < 64 := by omega
          have xl := xor64 (a := s) (b := p) (by omega) (by omega)
          rw [b_Hands_spread_20]
          have hbit : m.testBit (s ^^^ p) = decide (0 < w (s ^^^ p)) := hm2 _ (xsub q1 hpb)
          have hle : (n.testBit p).toNat * w (s ^^^ p) ≤ prt (fun q => (n.testBit q).toNat) w s p := by
            unfold prt
            rw [fb_sm_succ, if_pos hpb]
            exact Nat.le_add_left _ _
          by_cases q4 : (n.testBit p && m.testBit (s ^^^ p)) = true
          · simp (disch := first | omega | exact xl) only [b_Hands_spread_27, b_Hands_spread_37, b_Hands_spread_56, b_Hands_spread_91, ↓reduceIte, nadd, nmul, nsub, nlt, neq, ncl, nvi, ndiv, nrem, exI, exJ, exV, eq_self, true_and, and_true, true_or, or_true, if_true, if_false, not_true, not_false_eq_true, false_and, and_false, decide_true, decide_false, bi_T, bi_F, bi_0, bi_1, bi_z, bft, n10, n01, Nat.reduceEqDiff, Nat.reduceLT, Nat.reduceAdd, Nat.reduceMul, reduceCtorEq, nsubm, q1, q2, nxor, lbit2 hn hm, lb1, q4, lshl1, fb_orL]
            rw [Bool.and_eq_true, hbit, decide_eq_true_iff] at q4
            rw [q4.1, hx] at hle
            have : true.toNat * w (s ^^^ p) = w (s ^^^ p) := Nat.one_mul _
            rw [decide_eq_true (by omega), if_pos rfl] at ih
            exact ih _ _
          · have hF : (n.testBit p).toNat * w (s ^^^ p) = 0 := by
              cases h1 : n.testBit p
              · exact Nat.zero_mul _
              · rw [h1, Bool.true_and, hbit, decide_eq_true_iff] at q4
                rw [show w (s ^^^ p) = 0 by omega, Nat.mul_zero]
            by_cases q3 : p = 0
            · subst q3
              have hz : conv (fun q => (n.testBit q).toNat) w s = 0 := by
                rw [← hx, prt_0]
                exact hF
              rw [hz, decide_eq_false (by omega), if_neg (by decide)] at ih
              simp (disch := first | omega | exact xl) only [b_Hands_spread_27, b_Hands_spread_37, b_Hands_spread_68, b_Hands_spread_73, b_Hands_spread_91, ↓reduceIte, nadd, nmul, nsub, nlt, neq, ncl, nvi, ndiv, nrem, exI, exJ, exV, eq_self, true_and, and_true, true_or, or_true, if_true, if_false, not_true, not_false_eq_true, false_and, and_false, decide_true, decide_false, bi_T, bi_F, bi_0, bi_1, bi_z, bft, n10, n01, Nat.reduceEqDiff, Nat.reduceLT, Nat.reduceAdd, Nat.reduceMul, reduceCtorEq, nsubm, q1, q2, nxor, lbit2 hn hm, lb1, q4]
              exact ih _ _
            · have hnx : (p - 1) &&& s ≤ p - 1 := Nat.and_le_left
              simp (disch := first | omega | exact xl) only [b_Hands_spread_27, b_Hands_spread_37, b_Hands_spread_68, b_Hands_spread_76, ↓reduceIte, nadd, nmul, nsub, nlt, neq, ncl, nvi, ndiv, nrem, exI, exJ, exV, eq_self, true_and, and_true, true_or, or_true, if_true, if_false, not_true, not_false_eq_true, false_and, and_false, decide_true, decide_false, bi_T, bi_F, bi_0, bi_1, bi_z, bft, n10, n01, Nat.reduceEqDiff, Nat.reduceLT, Nat.reduceAdd, Nat.reduceMul, reduceCtorEq, nsubm, q1, q2, nxor, lbit2 hn hm, lb1, q4, q3, nand]
              refine ihp _ (by omega) (by omega) (by rw [Nat.and_assoc, Nat.and_self]) (k + 1) (by omega) ?_
              rw [prt_s (by omega) hpb q3] at hx
              show prt _ w s _ = _
              have hF2 : (fun q => (n.testBit q).toNat) p * w (s ^^^ p) = 0 := hF
              omega
      exact inner s (Nat.le_refl _) (Nat.and_self _) 0 (by omega) (prt_all (by omega))
  exact key 0 (by omega) _ _
theorem c_reached (hg : Geo g) (hB : SB S) {b hp : Nat} (hb : b < 12) (hh : hp ≤ 3) (hH : HB S LF I J b) (hQ : ∀ m, m < 18446744073709551616 → (∀ r, r &&& sOns S b = r → m.testBit r = decide (0 < hN S LF hp b r)) → Q (some (.long (lN m))) (g, I, J)) : a_call aTab aMX (d + 2) m_Hands_reached [.ref 36, .int (nI b), .int (nI hp)] (g, I, J) Q := by
  have ol := ons_lt hB b
  rw [e_Hands_reached, b_Hands_reached_0]
  have key : ∀ k, k ≤ 4 → ∀ m, m < 18446744073709551616 → (∀ r, r &&& sOns S b = r → m.testBit r = decide (0 < wv (fun h s => canS S LF h b s) hp k r)) → a_wp aTab aMX (d + 1) m_Hands_reached 5 [.ref 36, .int (nI b), .int (nI hp), .long (lN m), aU, .int (nI k)] [] (g, I, J) Q := by
    refine dn ?_ ?_
    · intro m hm g2
      rw [show wv (fun h s => canS S LF h b s) hp 4 = hn (fun h s => canS S LF h b s) hp from if_neg (by omega)] at g2
      simp (disch := omega) only [b_Hands_reached_5, b_Hands_reached_51, ↓reduceIte, nadd, nmul, nsub, nlt, neq, ncl, nvi, ndiv, nrem, exI, exJ, exV, eq_self, true_and, and_true, true_or, or_true, if_true, if_false, not_true, not_false_eq_true, false_and, and_false, decide_true, decide_false, bi_T, bi_F, bi_0, bi_1, bi_z, bft, n10, n01, Nat.reduceEqDiff, Nat.reduceLT, Nat.reduceAdd, Nat.reduceMul, reduceCtorEq, Nat.lt_irrefl]
      exact hQ m hm g2
    · intro k hk ih m hm g2
      rw [b_Hands_reached_5]
      by_cases q : k < hp ∨ k = 3
      · have go : a_wp aTab aMX (d + 1) m_Hands_reached 23 [.ref 36, .int (nI b), .int (nI hp), .long (lN m), aU, .int (nI k)] [] (g, I, J) Q := by
          rw [b_Hands_reached_23 hg]
          simp (disch := omega) only [↓reduceIte, nadd, nmul, nsub, nlt, neq, ncl, nvi, ndiv, nrem, exI, exJ, exV, eq_self, true_and, and_true, true_or, or_true, if_true, if_false, not_true, not_false_eq_true, false_and, and_false, decide_true, decide_false, bi_T, bi_F, bi_0, bi_1, bi_z, bft, n10, n01, Nat.reduceEqDiff, Nat.reduceLT, Nat.reduceAdd, Nat.reduceMul, reduceCtorEq, hH.1, hH.2 k hk]
          refine c_spread hm (bl64 _) ol g2 ?_
          intro m2 hm2 r2
          refine ⟨_, rfl, ?_⟩
          simp (disch := omega) only [b_Hands_reached_44, b_Hands_reached_45, ↓reduceIte, nadd, nmul, nsub, nlt, neq, ncl, nvi, ndiv, nrem, exI, exJ, exV, eq_self, true_and, and_true, true_or, or_true, if_true, if_false, not_true, not_false_eq_true, false_and, and_false, decide_true, decide_false, bi_T, bi_F, bi_0, bi_1, bi_z, bft, n10, n01, Nat.reduceEqDiff, Nat.reduceLT, Nat.reduceAdd, Nat.reduceMul, reduceCtorEq]
          refine ih m2 hm2 ?_
          intro r hr
          rw [r2 r hr, wv_s hk q hh]
          have hr64 : r < 64 := by have := sub_le hr; omega
          rw [conv_cong (fun q hq => by rw [bl64b _ hq] : ∀ q, q < 64 → ((bl (canS S LF k b) 64).testBit q).toNat = (canS S LF k b q).toNat) (fun _ _ => rfl) hr64]
        by_cases q1 : k < hp
        · simp (disch := omega) only [b_Hands_reached_11, ↓reduceIte, nadd, nmul, nsub, nlt, neq, ncl, nvi, ndiv, nrem, exI, exJ, exV, eq_self, true_and, and_true, true_or, or_true, if_true, if_false, not_true, not_false_eq_true, false_and, and_false, decide_true, decide_false, bi_T, bi_F, bi_0, bi_1, bi_z, bft, n10, n01, Nat.reduceEqDiff, Nat.reduceLT, Nat.reduceAdd, Nat.reduceMul, reduceCtorEq, hk, q1]
          exact go
        · have q2 : k = 3 := by omega
          simp (disch := omega) only [b_Hands_reached_11, b_Hands_reached_17, ↓reduceIte, nadd, nmul, nsub, nlt, neq, ncl, nvi, ndiv, nrem, exI, exJ, exV, eq_self, true_and, and_true, true_or, or_true, if_true, if_false, not_true, not_false_eq_true, false_and, and_false, decide_true, decide_false, bi_T, bi_F, bi_0, bi_1, bi_z, bft, n10, n01, Nat.reduceEqDiff, Nat.reduceLT, Nat.reduceAdd, Nat.reduceMul, reduceCtorEq, hk, q1]
          rw [if_pos q2]
          exact go
      · rw [wv_n q hk] at ih
        have q1 : ¬ k < hp := by omega
        have q2 : ¬ k = 3 := by omega
        simp (disch := omega) only [b_Hands_reached_11, b_Hands_reached_17, b_Hands_reached_45, ↓reduceIte, nadd, nmul, nsub, nlt, neq, ncl, nvi, ndiv, nrem, exI, exJ, exV, eq_self, true_and, and_true, true_or, or_true, if_true, if_false, not_true, not_false_eq_true, false_and, and_false, decide_true, decide_false, bi_T, bi_F, bi_0, bi_1, bi_z, bft, n10, n01, Nat.reduceEqDiff, Nat.reduceLT, Nat.reduceAdd, Nat.reduceMul, reduceCtorEq, hk, q1, q2]
        exact ih m hm g2
  refine key 0 (by omega) 1 (by decide) ?_
  intro r hr
  show (1 : Nat).testBit r = decide (0 < wH (fun h s => canS S LF h b s) (min 0 hp) r)
  rw [show min 0 hp = 0 by omega, show (1 : Nat) = 2 ^ 0 from rfl, Nat.testBit_two_pow]
  by_cases q : r = 0
  · rw [decide_eq_true q.symm, decide_eq_true (show 0 < wH (fun h s => canS S LF h b s) 0 r by rw [show wH (fun h s => canS S LF h b s) 0 r = 1 from if_pos q]; decide)]
  · rw [decide_eq_false (fun z => q z.symm), decide_eq_false (show ¬ 0 < wH (fun h s => canS S LF h b s) 0 r by rw [show wH (fun h s => canS S LF h b s) 0 r = 0 from if_neg q]; decide)]
/-- the first beat without a holding; 12 where each has one -/
def fbr (S : Nat → Nat → Nat) (LF : aLF) (hp : Nat) : Nat := fa_first (fun b => decide (hN S LF hp b (sOns S b) = 0)) 12
theorem fst_yes {p : Nat → Bool} {n k : Nat} (hk : k = fa_first p n) (h : k < n) : p k = true := by
  rw [hk] at h ⊢
  exact fa_first_yes p n h
theorem fst_no {p : Nat → Bool} {n k i : Nat} (hk : k = fa_first p n) (h : i < k) : p i = false := by
  rw [hk] at h
  exact fa_first_no p n i h
theorem fst_le {p : Nat → Bool} {n k : Nat} (hk : k = fa_first p n) : k ≤ n := by
  rw [hk]
  exact fa_first_le p n
theorem fbr_yes {hp : Nat} (h : fbr S LF hp < 12) : hN S LF hp (fbr S LF hp) (sOns S (fbr S LF hp)) = 0 := by
  have h1 : fbr S LF hp = fa_first (fun b => decide (hN S LF hp b (sOns S b) = 0)) 12 := by unfold fbr; rfl
  have := fst_yes h1 h
  simp only [decide_eq_true_eq] at this
  exact this
theorem fbr_no {hp i : Nat} (h : i < fbr S LF hp) : hN S LF hp i (sOns S i) ≠ 0 := by
  have h1 : fbr S LF hp = fa_first (fun b => decide (hN S LF hp b (sOns S b) = 0)) 12 := by unfold fbr; rfl
  have := fst_no h1 h
  simp only [decide_eq_false_iff_not] at this
  exact this
theorem fbr_le {hp : Nat} : fbr S LF hp ≤ 12 := by
  have h1 : fbr S LF hp = fa_first (fun b => decide (hN S LF hp b (sOns S b) = 0)) 12 := by unfold fbr; rfl
  exact fst_le h1
theorem c_firstBarred (hg : Geo g) (hS : CS S I) {W : Nat → Int32} (hL : LJ LF I W) (hC : HC S LF I J) {hp : Nat} (hh : hp ≤ 3) (hQ : ∀ I' J', Fr [34, 36, 38, 39, 40] I I' → Fr [35, 37] J J' → HC S LF I' J' → (∀ b, b < 12 → b ≤ fbr S LF hp → I' 39 b = nI 1) → Q (some (.int (if fbr S LF hp < 12 then nI (fbr S LF hp) else -1))) (g, I', J')) : a_call aTab aMX (d + 6) m_Hands_firstBarred [.ref 36, .int (nI hp)] (g, I, J) Q := by
  rw [e_Hands_firstBarred, b_Hands_firstBarred_0]
  have hle : fbr S LF hp ≤ 12 := fbr_le
  have hy := fbr_yes (S := S) (LF := LF) (hp := hp)
  have hno := fun i => fbr_no (S := S) (LF := LF) (hp := hp) (i := i)
  generalize fbr S LF hp = fb at *
  have key : ∀ k, k ≤ fb → ∀ I2 J2, Fr [34, 36, 38, 39, 40] I I2 → Fr [35, 37] J J2 → HC S LF I2 J2 → (∀ b, b < k → I2 39 b = nI 1) → a_wp aTab aMX (d + 5) m_Hands_firstBarred 2 [.ref 36, .int (nI hp), .int (nI k)] [] (g, I2, J2) Q := by
    have one : ∀ k, k < 12 → k ≤ fb → (hN S LF hp k (sOns S k) ≠ 0 → ∀ I2 J2, Fr [34, 36, 38, 39, 40] I I2 → Fr [35, 37] J J2 → HC S LF I2 J2 → (∀ b, b < k + 1 → I2 39 b = nI 1) → a_wp aTab aMX (d + 5) m_Hands_firstBarred 2 [.ref 36, .int (nI hp), .int (nI (k + 1))] [] (g, I2, J2) Q) → (hN S LF hp k (sOns S k) = 0 → k = fb) → ∀ I2 J2, Fr [34, 36, 38, 39, 40] I I2 → Fr [35, 37] J J2 → HC S LF I2 J2 → (∀ b, b < k → I2 39 b = nI 1) → a_wp aTab aMX (d + 5) m_Hands_firstBarred 2 [.ref 36, .int (nI hp), .int (nI k)] [] (g, I2, J2) Q := by
      intro k hk hkf ih hz I2 J2 g1 g2 g3 g4
      simp (disch := omega) only [b_Hands_firstBarred_2, b_Hands_firstBarred_8 hg, ↓reduceIte, nadd, nmul, nsub, nlt, neq, ncl, nvi, ndiv, nrem, exI, exJ, exV, eq_self, true_and, and_true, true_or, or_true, if_true, if_false, not_true, not_false_eq_true, false_and, and_false, decide_true, decide_false, bi_T, bi_F, bi_0, bi_1, bi_z, bft, n10, n01, Nat.reduceEqDiff, Nat.reduceLT, Nat.reduceAdd, Nat.reduceMul, reduceCtorEq, hk]
      refine c_lookAt hg (CS_Fr (by decide) g1 hS) (LJ_Fr (by decide) g1 hL) g3 hk ?_
      intro I3 J3 r1 r2 r3 r4 r5
      refine ⟨rfl, ?_⟩
      have f1 := Fr_tr g1 r1
      have f2 := Fr_tr g2 r2
      have f4 : ∀ b, b < k + 1 → I3 39 b = nI 1 := by
        intro b hb
        by_cases q : b = k
        · rw [q]; exact r5
        · exact r4 b (by omega) (g4 b (by omega))
      have hHk := HC_1 r3 hk r5
      rw [b_Hands_firstBarred_13 hg]
      refine c_reached hg hS.2 hk hh hHk ?_
      intro m hm hmb
      refine ⟨_, rfl, ?_⟩
      have ol := ons_lt hS.2 k
      simp (disch := omega) only [b_Hands_firstBarred_19 hg, ↓reduceIte, nadd, nmul, nsub, nlt, neq, ncl, nvi, ndiv, nrem, exI, exJ, exV, eq_self, true_and, and_true, true_or, or_true, if_true, if_false, not_true, not_false_eq_true, false_and, and_false, decide_true, decide_false, bi_T, bi_F, bi_0, bi_1, bi_z, bft, n10, n01, Nat.reduceEqDiff, Nat.reduceLT, Nat.reduceAdd, Nat.reduceMul, reduceCtorEq, hHk.1, lbit hm, lb0, hmb _ (Nat.and_self _)]
      by_cases q : hN S LF hp k (sOns S k) = 0
      · have e := hz q
        have := hQ I3 J3 f1 f2 r3 (fun b hb hbf => f4 b (by omega))
        rw [← e, if_pos hk] at this
        rw [if_pos (by rw [q]; rfl), b_Hands_firstBarred_33]
        exact this
      · rw [if_neg (by rw [decide_eq_true (show 0 < hN S LF hp k (sOns S k) by omega)]; decide), b_Hands_firstBarred_35, nadd]
        exact ih q I3 J3 f1 f2 r3 f4
    refine dn ?_ ?_
    · intro I2 J2 g1 g2 g3 g4
      by_cases q : fb < 12
      · exact one _ q (Nat.le_refl _) (fun z => absurd (hy q) z) (fun _ => rfl) I2 J2 g1 g2 g3 g4
      · have e : fb = 12 := by omega
        have := hQ I2 J2 g1 g2 g3 (fun b hb _ => g4 b (by omega))
        rw [if_neg q] at this
        rw [e]
        simp (disch := omega) only [b_Hands_firstBarred_2, b_Hands_firstBarred_41, ↓reduceIte, nadd, nmul, nsub, nlt, neq, ncl, nvi, ndiv, nrem, exI, exJ, exV, eq_self, true_and, and_true, true_or, or_true, if_true, if_false, not_true, not_false_eq_true, false_and, and_false, decide_true, decide_false, bi_T, bi_F, bi_0, bi_1, bi_z, bft, n10, n01, Nat.reduceEqDiff, Nat.reduceLT, Nat.reduceAdd, Nat.reduceMul, reduceCtorEq, Nat.lt_irrefl]
        exact this
    · intro k hk ih
      have hz : ¬ hN S LF hp k (sOns S k) = 0 := hno k hk
      exact one k (by omega) (by omega) (fun _ => ih) (fun z => absurd z hz)
  exact key 0 (by omega) I J Fr_rf Fr_rf hC (fun b hb => absurd hb (by omega))
def crS (S : Nat → Nat → Nat) (LF : aLF) (hp b : Nat) : Nat → Nat
  | 0 => sOns S b
  | k + 1 => if hN S LF hp b (crS S LF hp b k &&& (63 ^^^ 1 <<< k)) = 0 then crS S LF hp b k &&& (63 ^^^ 1 <<< k) else crS S LF hp b k
theorem crS_sub {hp b : Nat} : ∀ k, crS S LF hp b k &&& sOns S b = crS S LF hp b k
  | 0 => Nat.and_self _
  | k + 1 => by
    have ih := crS_sub (hp := hp) (b := b) k
    show (if _ then _ else _) &&& _ = (if _ then _ else _)
    split
    · rw [Nat.and_assoc, Nat.and_comm (63 ^^^ 1 <<< k), ← Nat.and_assoc, ih]
    · exact ih
theorem c_coreAt2 (hg : Geo g) (hB : SB S) {b hp : Nat} (hb : b < 12) (hh : hp ≤ 3) (hH : HB S LF I J b) (hQ : Q (some (.int (nI (crS S LF hp b 6)))) (g, I, J)) : a_call aTab aMX (d + 3) m_Hands_coreAt [.ref 36, .int (nI b), .int (nI hp)] (g, I, J) Q := by
  have ol := ons_lt hB b
  rw [e_Hands_coreAt, b_Hands_coreAt_0 hg]
  refine c_reached hg hB hb hh hH ?_
  intro m hm hmb
  refine ⟨_, rfl, ?_⟩
  simp (disch := omega) only [b_Hands_coreAt_6 hg, ↓reduceIte, nadd, nmul, nsub, nlt, neq, ncl, nvi, ndiv, nrem, exI, exJ, exV, eq_self, true_and, and_true, true_or, or_true, if_true, if_false, not_true, not_false_eq_true, false_and, and_false, decide_true, decide_false, bi_T, bi_F, bi_0, bi_1, bi_z, bft, n10, n01, Nat.reduceEqDiff, Nat.reduceLT, Nat.reduceAdd, Nat.reduceMul, reduceCtorEq, hH.1]
  have key : ∀ k, k ≤ 6 → ∀ v0 v1 v2 v7, a_wp aTab aMX (d + 2) m_Hands_coreAt 18 [v0, v1, v2, .long (lN m), aU, .int (nI (crS S LF hp b k)), .int (nI k), v7] [] (g, I, J) Q := by
    refine dn ?_ ?_
    · intro v0 v1 v2 v7
      simp (disch := omega) only [b_Hands_coreAt_18, b_Hands_coreAt_57, ↓reduceIte, nadd, nmul, nsub, nlt, neq, ncl, nvi, ndiv, nrem, exI, exJ, exV, eq_self, true_and, and_true, true_or, or_true, if_true, if_false, not_true, not_false_eq_true, false_and, and_false, decide_true, decide_false, bi_T, bi_F, bi_0, bi_1, bi_z, bft, n10, n01, Nat.reduceEqDiff, Nat.reduceLT, Nat.reduceAdd, Nat.reduceMul, reduceCtorEq, Nat.lt_irrefl]
      exact hQ
    · intro k hk ih v0 v1 v2 v7
      have hs := crS_sub (S := S) (LF := LF) (hp := hp) (b := b) k
      have hl : crS S LF hp b k < 64 := by have := sub_le hs; omega
      have hs2 : (crS S LF hp b k &&& (63 ^^^ 1 <<< k)) &&& sOns S b = crS S LF hp b k &&& (63 ^^^ 1 <<< k) := by rw [Nat.and_assoc, Nat.and_comm (63 ^^^ 1 <<< k), ← Nat.and_assoc, hs]
      have hl2 : crS S LF hp b k &&& (63 ^^^ 1 <<< k) < 64 := and64l hl
      have ec : crS S LF hp b (k + 1) = if hN S LF hp b (crS S LF hp b k &&& (63 ^^^ 1 <<< k)) = 0 then crS S LF hp b k &&& (63 ^^^ 1 <<< k) else crS S LF hp b k := rfl
      rw [ec] at ih
      rw [b_Hands_coreAt_18]
      simp (disch := first | omega | exact hl2) only [b_Hands_coreAt_25, ↓reduceIte, nadd, nmul, nsub, nlt, neq, ncl, nvi, ndiv, nrem, exI, exJ, exV, eq_self, true_and, and_true, true_or, or_true, if_true, if_false, not_true, not_false_eq_true, false_and, and_false, decide_true, decide_false, bi_T, bi_F, bi_0, bi_1, bi_z, bft, n10, n01, Nat.reduceEqDiff, Nat.reduceLT, Nat.reduceAdd, Nat.reduceMul, reduceCtorEq, hk, nshl, nandn, lbit hm, lb0, hmb _ hs2]
      by_cases q : hN S LF hp b (crS S LF hp b k &&& (63 ^^^ 1 <<< k)) = 0
      · rw [if_pos q] at ih
        rw [if_pos (by rw [q]; rfl), b_Hands_coreAt_47, b_Hands_coreAt_51, nadd]
        exact ih _ _ _ _
      · rw [if_neg q] at ih
        rw [if_neg (by rw [decide_eq_true (show 0 < hN S LF hp b (crS S LF hp b k &&& (63 ^^^ 1 <<< k)) by omega)]; decide), b_Hands_coreAt_51, nadd]
        exact ih _ _ _ _
  exact key 0 (by omega) _ _ _ _
end HA
