/-! ===== holdings counted and reached: the class ===== -/
def HB (S : Nat → Nat → Nat) (LF : aLF) (I : Nat → Nat → Int32) (J : Nat → Nat → Int64) (b : Nat) : Prop := I 38 b = nI (sOns S b) ∧ ∀ h, h < 4 → J 37 (b * 4 + h) = lN (bl (canS S LF h b) 64)
def HC (S : Nat → Nat → Nat) (LF : aLF) (I : Nat → Nat → Int32) (J : Nat → Nat → Int64) : Prop := ∀ b, b < 12 → I 39 b = nI 0 ∨ (I 39 b = nI 1 ∧ HB S LF I J b)
def hN (S : Nat → Nat → Nat) (LF : aLF) (hp b s : Nat) : Nat := hn (fun h s => canS S LF h b s) hp s
theorem HC_1 {S : Nat → Nat → Nat} {LF : aLF} {I : Nat → Nat → Int32} {J : Nat → Nat → Int64} {b : Nat} (h : HC S LF I J) (hb : b < 12) (h1 : I 39 b = nI 1) : HB S LF I J b := by
  rcases h b hb with h | h
  · rw [h1] at h; exact absurd h (by decide)
  · exact h.2
theorem HB_c {S : Nat → Nat → Nat} {LF : aLF} {I I2 : Nat → Nat → Int32} {J J2 : Nat → Nat → Int64} {b : Nat} (h1 : I2 38 = I 38) (h2 : J2 37 = J 37) (h : HB S LF I J b) : HB S LF I2 J2 b := by
  unfold HB at *
  rw [h1, h2]
  exact h
theorem HC_c {S : Nat → Nat → Nat} {LF : aLF} {I I2 : Nat → Nat → Int32} {J J2 : Nat → Nat → Int64} (h1 : I2 38 = I 38) (h3 : I2 39 = I 39) (h2 : J2 37 = J 37) (h : HC S LF I J) : HC S LF I2 J2 := by
  intro b hb
  rw [h3]
  rcases h b hb with h | h
  · exact Or.inl h
  · exact Or.inr ⟨h.1, HB_c h1 h2 h.2⟩
theorem canS_0 {S : Nat → Nat → Nat} {LF : aLF} {h b : Nat} : canS S LF h b 0 = true := by
  have z : ∀ p : Nat → Bool, fb_ct (fun f => (0 : Nat).testBit f && p f) 6 = 0 := fun p => fb_ct_zero.2 (fun k _ => by rw [Nat.zero_testBit]; rfl)
  unfold canS
  rw [Bool.and_eq_true]
  refine ⟨aB_iff.2 (fun k _ => by rw [Nat.zero_testBit]; rfl), ?_⟩
  split
  · apply decide_eq_true
    rw [show fb_ct (0 : Nat).testBit 6 = 0 from fb_ct_zero.2 (fun k _ => Nat.zero_testBit k)]
    omega
  · rw [Bool.and_eq_true]
    refine ⟨?_, aB_iff.2 (fun k _ => by rw [Nat.zero_testBit]; rfl)⟩
    unfold hsf twoS oneS
    rw [z, z]
    apply decide_eq_true
    omega
theorem sub_nxB : aB (fun s => aB (fun p => (!decide (p &&& s = p) || decide (p = 0)) || aB (fun q => (!decide (q &&& s = q) || !decide (q < p)) || decide (q ≤ (p - 1) &&& s)) 64) 64) 64 = true := by decide +kernel
theorem sub_nx (s : Nat) (hs : s < 64) (p : Nat) (hp : p < 64) (h1 : p &&& s = p) (h2 : p ≠ 0) (q : Nat) (hq : q < 64) (h3 : q &&& s = q) (h4 : q < p) : q ≤ (p - 1) &&& s := by
  have h := aB_iff.1 sub_nxB s hs
  have h := aB_iff.1 h p hp
  rw [decide_eq_true h1, decide_eq_false h2] at h
  simp only [Bool.not_true, Bool.false_or] at h
  have h := aB_iff.1 h q hq
  rw [decide_eq_true h3, decide_eq_true h4] at h
  simp only [Bool.not_true, Bool.false_or] at h
  exact of_decide_eq_true h
/-- the sum over the parts of a set that are at most p -/
def prt (c w : Nat → Nat) (s p : Nat) : Nat := fb_sm (fun q => if q &&& s = q then c q * w (s ^^^ q) else 0) (p + 1)
theorem sm_more {f : Nat → Nat} {a : Nat} : ∀ j, (∀ i, a ≤ i → i < a + j → f i = 0) → fb_sm f (a + j) = fb_sm f a
  | 0, _ => rfl
  | j + 1, h => by
    rw [← Nat.add_assoc, fb_sm_succ, sm_more j (fun i h1 h2 => h i h1 (by omega)), h (a + j) (by omega) (by omega), Nat.add_zero]
theorem prt_all {c w : Nat → Nat} {s : Nat} (hs : s < 64) : prt c w s s = conv c w s := by
  unfold prt conv
  have := sm_more (f := fun q => if q &&& s = q then c q * w (s ^^^ q) else 0) (a := s + 1) (64 - (s + 1)) (fun i h1 h2 => if_neg (fun z => by have := sub_le z; omega))
  rw [show (s + 1) + (64 - (s + 1)) = 64 by omega] at this
  exact this.symm
theorem prt_s {c w : Nat → Nat} {s p : Nat} (hs : s < 64) (hp : p &&& s = p) (h0 : p ≠ 0) : prt c w s p = c p * w (s ^^^ p) + prt c w s ((p - 1) &&& s) := by
  have hps := sub_le hp
  have hle : (p - 1) &&& s ≤ p - 1 := Nat.and_le_left
  unfold prt
  rw [fb_sm_succ, if_pos hp, Nat.add_comm]
  congr 1
  have := sm_more (f := fun q => if q &&& s = q then c q * w (s ^^^ q) else 0) (a := ((p - 1) &&& s) + 1) (p - (((p - 1) &&& s) + 1)) ?_
  · rw [show ((p - 1) &&& s) + 1 + (p - (((p - 1) &&& s) + 1)) = p by omega] at this
    exact this
  · intro i h1 h2
    refine if_neg (fun z => ?_)
    have := sub_nx s hs p (by omega) hp h0 i (by omega) z (by omega)
    omega
theorem prt_0 {c w : Nat → Nat} {s : Nat} : prt c w s 0 = c 0 * w (s ^^^ 0) := by
  unfold prt
  rw [fb_sm_succ, Nat.zero_and, if_pos rfl]
  exact Nat.zero_add _
theorem xsub {s q wi : Nat} (hs : s &&& wi = s) (hq : q &&& s = q) : (s ^^^ q) &&& wi = s ^^^ q := by
  rw [sub_bit] at *
  intro i hi
  rw [Nat.testBit_xor] at hi
  cases h1 : s.testBit i
  · cases h2 : q.testBit i
    · rw [h1, h2] at hi; cases hi
    · rw [hq i h2] at h1; cases h1
  · exact hs i h1
theorem sm_pos {f : Nat → Nat} {n : Nat} : 0 < fb_sm f n ↔ ∃ k, k < n ∧ 0 < f k := by
  constructor
  · intro h
    apply Classical.byContradiction
    intro q
    rw [sm_0 (fun k hk => by
      apply Classical.byContradiction
      intro z
      exact q ⟨k, hk, by omega⟩)] at h
    omega
  · rintro ⟨k, hk, h⟩
    have := fb_sm_part f hk
    omega
section HA
variable {d : Nat} {g : aG} {I : Nat → Nat → Int32} {J : Nat → Nat → Int64} {Q : aQ} {S : Nat → Nat → Nat} {LF : aLF}
theorem c_lookAt (hg : Geo g) (hS : CS S I) {W : Nat → Int32} (hL : LJ LF I W) (hC : HC S LF I J) {b : Nat} (hb : b < 12) (hQ : ∀ I' J', Fr [34, 36, 38, 39, 40] I I' → Fr [35, 37] J J' → HC S LF I' J' → (∀ b2, b2 < 12 → I 39 b2 = nI 1 → I' 39 b2 = nI 1) → I' 39 b = nI 1 → Q none (g, I', J')) : a_call aTab aMX (d + 5) m_Hands_lookAt [.ref 36, .int (nI b)] (g, I, J) Q := by
  rw [e_Hands_lookAt]
  rcases hC b hb with h0 | ⟨h1, -⟩
  rotate_left
  · simp (disch := omega) only [b_Hands_lookAt_0 hg, b_Hands_lookAt_9, ↓reduceIte, nadd, nmul, nsub, nlt, neq, ncl, nvi, ndiv, nrem, exI, exJ, exV, eq_self, true_and, and_true, true_or, or_true, if_true, if_false, not_true, not_false_eq_true, false_and, and_false, decide_true, decide_false, bi_T, bi_F, bi_0, bi_1, bi_z, bft, n10, n01, Nat.reduceEqDiff, Nat.reduceLT, Nat.reduceAdd, Nat.reduceMul, reduceCtorEq, h1, Nat.one_ne_zero]
    exact hQ I J Fr_rf Fr_rf hC (fun _ _ h => h) h1
  simp (disch := omega) only [b_Hands_lookAt_0 hg, b_Hands_lookAt_10 hg, ↓reduceIte, nadd, nmul, nsub, nlt, neq, ncl, nvi, ndiv, nrem, exI, exJ, exV, eq_self, true_and, and_true, true_or, or_true, if_true, if_false, not_true, not_false_eq_true, false_and, and_false, decide_true, decide_false, bi_T, bi_F, bi_0, bi_1, bi_z, bft, n10, n01, Nat.reduceEqDiff, Nat.reduceLT, Nat.reduceAdd, Nat.reduceMul, reduceCtorEq, h0]
  have f1 : Fr [34, 36, 38, 39, 40] I (u2 I 39 b (nI 1)) := Fr_u (by decide) Fr_rf
  have hS1 := CS_Fr (by decide) f1 hS
  rw [c_onBits hg hS1 hb]
  simp (disch := omega) only [b_Hands_lookAt_30 hg, ↓reduceIte, nadd, nmul, nsub, nlt, neq, ncl, nvi, ndiv, nrem, exI, exJ, exV, eq_self, true_and, and_true, true_or, or_true, if_true, if_false, not_true, not_false_eq_true, false_and, and_false, decide_true, decide_false, bi_T, bi_F, bi_0, bi_1, bi_z, bft, n10, n01, Nat.reduceEqDiff, Nat.reduceLT, Nat.reduceAdd, Nat.reduceMul, reduceCtorEq]
  generalize hI1 : u2 (u2 (u2 I 39 b (nI 1)) 38 b (nI (sOns S b))) 36 7 (nI 0) = I1
  have f2 : Fr [34, 36, 38, 39, 40] I I1 := by rw [← hI1]; exact Fr_u (by decide) (Fr_u (by decide) f1)
  have e38 : ∀ b2, I1 38 b2 = if b2 = b then nI (sOns S b) else I 38 b2 := by
    intro b2
    rw [← hI1, u2_a (by decide)]
    by_cases q : b2 = b
    · rw [if_pos q, q, u2_s]
    · rw [if_neg q, u2_k q, u2_a (by decide)]
  have e39 : ∀ b2, I1 39 b2 = if b2 = b then nI 1 else I 39 b2 := by
    intro b2
    rw [← hI1, u2_a (by decide), u2_a (by decide)]
    by_cases q : b2 = b
    · rw [if_pos q, q, u2_s]
    · rw [if_neg q, u2_k q]
  have e7 : I1 36 7 = nI 0 := by rw [← hI1, u2_s]
  clear hI1
  have loop2 : ∀ k, k ≤ 4 → ∀ I2 J2, Fr [34, 36, 38, 39, 40] I I2 → Fr [35, 37] J J2 → I2 38 = I1 38 → I2 39 = I1 39 → I2 36 7 = nI (bl (fun f => decide (S 9 f = 2)) 6) → (∀ f, f < 6 → I2 40 f = nI (bl (far S b f) 6)) → (∀ h, h < k → J2 37 (b * 4 + h) = lN (bl (canS S LF h b) 64)) → (∀ i, (∀ h, h < 4 → i ≠ b * 4 + h) → J2 37 i = J 37 i) → a_wp aTab aMX (d + 4) m_Hands_lookAt 93 [.ref 36, .int (nI b), .int (nI k)] [] (g, I2, J2) Q := by
    refine dn ?_ ?_
    · intro I2 J2 g1 g2 g3 g4 g5 g6 g7 g8
      simp (disch := omega) only [b_Hands_lookAt_93, b_Hands_lookAt_125, ↓reduceIte, nadd, nmul, nsub, nlt, neq, ncl, nvi, ndiv, nrem, exI, exJ, exV, eq_self, true_and, and_true, true_or, or_true, if_true, if_false, not_true, not_false_eq_true, false_and, and_false, decide_true, decide_false, bi_T, bi_F, bi_0, bi_1, bi_z, bft, n10, n01, Nat.reduceEqDiff, Nat.reduceLT, Nat.reduceAdd, Nat.reduceMul, reduceCtorEq, Nat.lt_irrefl]
      refine hQ I2 J2 g1 g2 ?_ ?_ ?_
      · intro b2 hb2
        rw [g4, e39]
        by_cases q : b2 = b
        · refine Or.inr ⟨if_pos q, ?_, ?_⟩
          · rw [g3, e38, if_pos q, q]
          · rw [q]; exact g7
        · rw [if_neg q]
          rcases hC b2 hb2 with h | h
          · exact Or.inl h
          · refine Or.inr ⟨h.1, ?_, ?_⟩
            · rw [g3, e38, if_neg q]; exact h.2.1
            · intro h' hh'
              rw [g8 _ (fun x hx => by omega)]
              exact h.2.2 h' hh'
      · intro b2 hb2 h
        rw [g4, e39]
        split
        · rfl
        · exact h
      · rw [g4, e39, if_pos rfl]
    · intro k hk ih I2 J2 g1 g2 g3 g4 g5 g6 g7 g8
      simp (disch := omega) only [b_Hands_lookAt_93, b_Hands_lookAt_98 hg, ↓reduceIte, nadd, nmul, nsub, nlt, neq, ncl, nvi, ndiv, nrem, exI, exJ, exV, eq_self, true_and, and_true, true_or, or_true, if_true, if_false, not_true, not_false_eq_true, false_and, and_false, decide_true, decide_false, bi_T, bi_F, bi_0, bi_1, bi_z, bft, n10, n01, Nat.reduceEqDiff, Nat.reduceLT, Nat.reduceAdd, Nat.reduceMul, reduceCtorEq, hk]
      refine c_allowedFor hg (CS_Fr (by decide) g1 hS) (LJ_Fr (by decide) g1 hL) hk hb (by rw [g3, e38, if_pos rfl]) ?_
      intro I3 J3 r1 r2
      refine ⟨_, rfl, ?_⟩
      have f3 : Fr [34, 36, 38, 39, 40] I I3 := Fr_tr g1 (Fr_w (by decide) r1)
      have a1 : I3 36 7 = nI (bl (fun f => decide (S 9 f = 2)) 6) := by rw [Fr_at r1 36 (by decide)]; exact g5
      have a2 : ∀ f, f < 6 → I3 40 f = nI (bl (far S b f) 6) := by rw [Fr_at r1 40 (by decide)]; exact g6
      rw [b_Hands_lookAt_115 hg, c_setsFor hg (CS_Fr (by decide) f3 hS) hk a1 a2]
      simp (disch := omega) only [b_Hands_lookAt_118 hg, ↓reduceIte, nadd, nmul, nsub, nlt, neq, ncl, nvi, ndiv, nrem, exI, exJ, exV, eq_self, true_and, and_true, true_or, or_true, if_true, if_false, not_true, not_false_eq_true, false_and, and_false, decide_true, decide_false, bi_T, bi_F, bi_0, bi_1, bi_z, bft, n10, n01, Nat.reduceEqDiff, Nat.reduceLT, Nat.reduceAdd, Nat.reduceMul, reduceCtorEq]
      have e37 : J3 37 = J2 37 := Fr_at r2 37 (by decide)
      refine ih I3 _ f3 (Fr_u (by decide) (Fr_tr g2 (Fr_w (by decide) r2))) ((Fr_at r1 38 (by decide)).trans g3) ((Fr_at r1 39 (by decide)).trans g4) a1 a2 ?_ ?_
      · intro h hh
        by_cases q : h = k
        · rw [q, u2_s]
        · rw [u2_k (by omega), e37]
          exact g7 h (by omega)
      · intro i hi
        rw [u2_k (hi k hk), e37]
        exact g8 i hi
  have loop1 : ∀ k, k ≤ 6 → ∀ I2, Fr [34, 36, 38, 39, 40] I I2 → I2 38 = I1 38 → I2 39 = I1 39 → I2 36 7 = nI (bl (fun f => decide (S 9 f = 2)) k) → (∀ f, f < k → I2 40 f = nI (bl (far S b f) 6)) → a_wp aTab aMX (d + 4) m_Hands_lookAt 38 [.ref 36, .int (nI b), .int (nI k)] [] (g, I2, J) Q := by
    refine dn ?_ ?_
    · intro I2 g1 g3 g4 g5 g6
      simp (disch := omega) only [b_Hands_lookAt_38, b_Hands_lookAt_91, ↓reduceIte, nadd, nmul, nsub, nlt, neq, ncl, nvi, ndiv, nrem, exI, exJ, exV, eq_self, true_and, and_true, true_or, or_true, if_true, if_false, not_true, not_false_eq_true, false_and, and_false, decide_true, decide_false, bi_T, bi_F, bi_0, bi_1, bi_z, bft, n10, n01, Nat.reduceEqDiff, Nat.reduceLT, Nat.reduceAdd, Nat.reduceMul, reduceCtorEq, Nat.lt_irrefl]
      exact loop2 0 (by omega) I2 J g1 Fr_rf g3 g4 g5 g6 (fun h hh => absurd hh (by omega)) (fun i _ => rfl)
    · intro k hk ih I2 g1 g3 g4 g5 g6
      have hS2 := CS_Fr (by decide) g1 hS
      have h9 := sb9 hS.2 k
      have eb : bl (fun f => decide (S 9 f = 2)) (k + 1) = if decide (S 9 k = 2) then bl (fun f => decide (S 9 f = 2)) k ||| 1 <<< k else bl (fun f => decide (S 9 f = 2)) k := rfl
      have tail : ∀ x : Nat, bl (fun f => decide (S 9 f = 2)) k ||| x = bl (fun f => decide (S 9 f = 2)) (k + 1) → a_wp aTab aMX (d + 4) m_Hands_lookAt 69 [.ref 36, .int (nI b), .int (nI k)] [.int (nI x), .int (nI (bl (fun f => decide (S 9 f = 2)) k)), .ref 36] (g, I2, J) Q := by
        intro x hx
        rw [b_Hands_lookAt_69 hg, nor, hx]
        have f3 : Fr [34, 36, 38, 39, 40] I (u2 I2 36 7 (nI (bl (fun f => decide (S 9 f = 2)) (k + 1)))) := Fr_u (by decide) g1
        rw [c_farFrom hg (CS_Fr (by decide) f3 hS) hk hb]
        simp (disch := omega) only [b_Hands_lookAt_84 hg, ↓reduceIte, nadd, nmul, nsub, nlt, neq, ncl, nvi, ndiv, nrem, exI, exJ, exV, eq_self, true_and, and_true, true_or, or_true, if_true, if_false, not_true, not_false_eq_true, false_and, and_false, decide_true, decide_false, bi_T, bi_F, bi_0, bi_1, bi_z, bft, n10, n01, Nat.reduceEqDiff, Nat.reduceLT, Nat.reduceAdd, Nat.reduceMul, reduceCtorEq]
        refine ih _ (Fr_u (by decide) f3) ?_ ?_ ?_ ?_
        · rw [u2_r (by decide), u2_r (by decide)]; exact g3
        · rw [u2_r (by decide), u2_r (by decide)]; exact g4
        · rw [u2_a (by decide), u2_s]
        · intro f hf
          by_cases q : f = k
          · rw [q, u2_s]
          · rw [u2_k q, u2_a (by decide)]
            exact g6 f (by omega)
      rw [b_Hands_lookAt_38]
      by_cases q : S 9 k = 2
      · simp (disch := omega) only [b_Hands_lookAt_44 hg, b_Hands_lookAt_62, ↓reduceIte, nadd, nmul, nsub, nlt, neq, ncl, nvi, ndiv, nrem, exI, exJ, exV, eq_self, true_and, and_true, true_or, or_true, if_true, if_false, not_true, not_false_eq_true, false_and, and_false, decide_true, decide_false, bi_T, bi_F, bi_0, bi_1, bi_z, bft, n10, n01, Nat.reduceEqDiff, Nat.reduceLT, Nat.reduceAdd, Nat.reduceMul, reduceCtorEq, hk, cs9 hS2, q, g5, nshl]
        exact tail _ (by rw [eb, decide_eq_true q, if_pos rfl])
      · simp (disch := omega) only [b_Hands_lookAt_44 hg, b_Hands_lookAt_68, ↓reduceIte, nadd, nmul, nsub, nlt, neq, ncl, nvi, ndiv, nrem, exI, exJ, exV, eq_self, true_and, and_true, true_or, or_true, if_true, if_false, not_true, not_false_eq_true, false_and, and_false, decide_true, decide_false, bi_T, bi_F, bi_0, bi_1, bi_z, bft, n10, n01, Nat.reduceEqDiff, Nat.reduceLT, Nat.reduceAdd, Nat.reduceMul, reduceCtorEq, hk, cs9 hS2, q, g5]
        exact tail _ (by rw [eb, decide_eq_false q, if_neg (by decide), Nat.or_zero])
  exact loop1 0 (by omega) I1 f2 rfl rfl e7 (fun f hf => absurd hf (by omega))
theorem c_hCanHold (hg : Geo g) {b h s : Nat} (hb : b < 12) (hh : h < 4) (hs : s < 64) (hB : HB S LF I J b) : a_call aTab aMX (d + 1) m_Hands_canHold [.ref 36, .int (nI h), .int (nI b), .int (nI s)] (g, I, J) Q = Q (some (.int (bi (canS S LF h b s)))) (g, I, J) := by
  rw [e_Hands_canHold, b_Hands_canHold_0 hg]
  simp (disch := omega) only [↓reduceIte, nadd, nmul, nsub, nlt, neq, ncl, nvi, ndiv, nrem, exI, exJ, exV, eq_self, true_and, and_true, true_or, or_true, if_true, if_false, not_true, not_false_eq_true, false_and, and_false, decide_true, decide_false, bi_T, bi_F, bi_0, bi_1, bi_z, bft, n10, n01, Nat.reduceEqDiff, Nat.reduceLT, Nat.reduceAdd, Nat.reduceMul, reduceCtorEq, hB.2 h hh, lbit (bl64 _), lb1, bl64b]
  by_cases q : canS S LF h b s = true <;> simp (disch := omega) only [b_Hands_canHold_19, b_Hands_canHold_23, b_Hands_canHold_24, ↓reduceIte, nadd, nmul, nsub, nlt, neq, ncl, nvi, ndiv, nrem, exI, exJ, exV, eq_self, true_and, and_true, true_or, or_true, if_true, if_false, not_true, not_false_eq_true, false_and, and_false, decide_true, decide_false, bi_T, bi_F, bi_0, bi_1, bi_z, bft, n10, n01, Nat.reduceEqDiff, Nat.reduceLT, Nat.reduceAdd, Nat.reduceMul, reduceCtorEq, q]
theorem c_spreadWays {n wi r3 r4 : Nat} {w : Nat → Nat} (hn : n < 18446744073709551616) (hw : wi < 64) (h34 : r3 ≠ r4) (k3 : gK g r3 = 12) (n3 : gN g r3 = 64) (k4 : gK g r4 = 12) (n4 : gN g r4 = 64) (hf : ∀ r, r &&& wi = r → I r3 r = nI (w r)) (hQ : ∀ I', Fr [r4] I I' → (∀ r, r &&& wi = r → I' r4 r = nI (conv (fun q => (n.testBit q).toNat) w r)) → Q none (g, I', J)) : a_call aTab aMX (d + 1) m_Hands_spreadWays [.long (lN n), .int (nI wi), .ref r3, .ref r4] (g, I, J) Q := by
  rw [e_Hands_spreadWays, b_Hands_spreadWays_0]
  have key : ∀ s, s ≤ wi + 1 → ∀ I2, Fr [r4] I I2 → (∀ r, r < s → r &&& wi = r → I2 r4 r = nI (conv (fun q => (n.testBit q).toNat) w r)) → ∀ v6 v7 v8, a_wp aTab aMX d m_Hands_spreadWays 3 [.long (lN n), aU, .int (nI wi), .ref r3, .ref r4, .int (nI s), v6, v7, v8] [] (g, I2, J) Q := by
    refine dn ?_ ?_
    · intro I2 g1 g2 v6 v7 v8
      have q : wi < wi + 1 := by omega
      simp (disch := omega) only [b_Hands_spreadWays_3, b_Hands_spreadWays_94, ↓reduceIte, nadd, nmul, nsub, nlt, neq, ncl, nvi, ndiv, nrem, exI, exJ, exV, eq_self, true_and, and_true, true_or, or_true, if_true, if_false, not_true, not_false_eq_true, false_and, and_false, decide_true, decide_false, bi_T, bi_F, bi_0, bi_1, bi_z, bft, n10, n01, Nat.reduceEqDiff, Nat.reduceLT, Nat.reduceAdd, Nat.reduceMul, reduceCtorEq, q]
      exact hQ I2 g1 (fun r hr => g2 r (by have := sub_le hr; omega) hr)
    · intro s hs ih I2 g1 g2 v6 v7 v8
      have q : ¬ wi < s := by omega
      have fin : ∀ x : Nat, (s &&& wi = s → x = conv (fun q => (n.testBit q).toNat) w s) → ∀ v7 v8, a_wp aTab aMX d m_Hands_spreadWays 81 [.long (lN n), aU, .int (nI wi), .ref r3, .ref r4, .int (nI s), .int (nI x), v7, v8] [] (g, I2, J) Q := by
        intro x hx v7 v8
        rw [b_Hands_spreadWays_81]
        simp (disch := omega) only [↓reduceIte, nadd, nmul, nsub, nlt, neq, ncl, nvi, ndiv, nrem, exI, exJ, exV, eq_self, true_and, and_true, true_or, or_true, if_true, if_false, not_true, not_false_eq_true, false_and, and_false, decide_true, decide_false, bi_T, bi_F, bi_0, bi_1, bi_z, bft, n10, n01, Nat.reduceEqDiff, Nat.reduceLT, Nat.reduceAdd, Nat.reduceMul, reduceCtorEq, k4, n4]
        refine ih _ (Fr_u (by simp) g1) ?_ _ _ _
        intro r hr hr2
        by_cases q2 : r = s
        · subst q2
          rw [u2_s, hx hr2]
        · rw [u2_k q2]
          exact g2 r (by omega) hr2
      simp (disch := omega) only [b_Hands_spreadWays_3, b_Hands_spreadWays_9, ↓reduceIte, nadd, nmul, nsub, nlt, neq, ncl, nvi, ndiv, nrem, exI, exJ, exV, eq_self, true_and, and_true, true_or, or_true, if_true, if_false, not_true, not_false_eq_true, false_and, and_false, decide_true, decide_false, bi_T, bi_F, bi_0, bi_1, bi_z, bft, n10, n01, Nat.reduceEqDiff, Nat.reduceLT, Nat.reduceAdd, Nat.reduceMul, reduceCtorEq, q]
      by_cases q1 : s &&& wi = s
      rotate_left
      · rw [b_Hands_spreadWays_19]
        simp (disch := omega) only [b_Hands_spreadWays_26, ↓reduceIte, nadd, nmul, nsub, nlt, neq, ncl, nvi, ndiv, nrem, exI, exJ, exV, eq_self, true_and, and_true, true_or, or_true, if_true, if_false, not_true, not_false_eq_true, false_and, and_false, decide_true, decide_false, bi_T, bi_F, bi_0, bi_1, bi_z, bft, n10, n01, Nat.reduceEqDiff, Nat.reduceLT, Nat.reduceAdd, Nat.reduceMul, reduceCtorEq, nsubm, q1]
        exact fin 0 (fun z => absurd z q1) _ _
      have inner : ∀ p, p ≤ s → p &&& s = p → ∀ x k : Nat, k + p ≤ s → x + prt (fun q => (n.testBit q).toNat) w s p = conv (fun q => (n.testBit q).toNat) w s → a_wp aTab aMX d m_Hands_spreadWays 19 [.long (lN n), aU, .int (nI wi), .ref r3, .ref r4, .int (nI s), .int (nI x), .int (nI p), .int (nI k)] [] (g, I2, J) Q := by
        intro p
        induction p using Nat.strongRecOn with
        | ind p ihp =>
          intro hps hpb x k hk hx
          have q2 : k < 64 := by omega
          have xl := xor64 (a := s) (b := p) (by omega) (by omega)
          have step : ∀ y : Nat, y + (prt (fun q => (n.testBit q).toNat) w s p - (n.testBit p).toNat * w (s ^^^ p)) = conv (fun q => (n.testBit q).toNat) w s → a_wp aTab aMX d m_Hands_spreadWays 58 [.long (lN n), aU, .int (nI wi), .ref r3, .ref r4, .int (nI s), .int (nI y), .int (nI p), .int (nI k)] [] (g, I2, J) Q := by
            intro y hy
            rw [b_Hands_spreadWays_58]
            by_cases q3 : p = 0
            · simp (disch := omega) only [b_Hands_spreadWays_63, ↓reduceIte, nadd, nmul, nsub, nlt, neq, ncl, nvi, ndiv, nrem, exI, exJ, exV, eq_self, true_and, and_true, true_or, or_true, if_true, if_false, not_true, not_false_eq_true, false_and, and_false, decide_true, decide_false, bi_T, bi_F, bi_0, bi_1, bi_z, bft, n10, n01, Nat.reduceEqDiff, Nat.reduceLT, Nat.reduceAdd, Nat.reduceMul, reduceCtorEq, q3]
              refine fin y (fun _ => ?_) _ _
              rw [q3, prt_0] at hy
              omega
            · have hnx : (p - 1) &&& s ≤ p - 1 := Nat.and_le_left
              simp (disch := omega) only [b_Hands_spreadWays_66, ↓reduceIte, nadd, nmul, nsub, nlt, neq, ncl, nvi, ndiv, nrem, exI, exJ, exV, eq_self, true_and, and_true, true_or, or_true, if_true, if_false, not_true, not_false_eq_true, false_and, and_false, decide_true, decide_false, bi_T, bi_F, bi_0, bi_1, bi_z, bft, n10, n01, Nat.reduceEqDiff, Nat.reduceLT, Nat.reduceAdd, Nat.reduceMul, reduceCtorEq, q3, nand]
              refine ihp _ (by omega) (by omega) (by rw [Nat.and_assoc, Nat.and_self]) y (k + 1) (by omega) ?_
              rw [prt_s (by omega) hpb q3] at hy
              omega
          rw [b_Hands_spreadWays_19]
          have hxr : I2 r3 (s ^^^ p) = nI (w (s ^^^ p)) := by
            rw [g1 r3 (by simp [h34])]
            exact hf _ (xsub q1 hpb)
          have hle : (n.testBit p).toNat * w (s ^^^ p) ≤ prt (fun q => (n.testBit q).toNat) w s p := by
            unfold prt
            rw [fb_sm_succ, if_pos hpb]
            exact Nat.le_add_left _ _
          cases q4 : n.testBit p
          · simp (disch := omega) only [b_Hands_spreadWays_26, b_Hands_spreadWays_35, ↓reduceIte, nadd, nmul, nsub, nlt, neq, ncl, nvi, ndiv, nrem, exI, exJ, exV, eq_self, true_and, and_true, true_or, or_true, if_true, if_false, not_true, not_false_eq_true, false_and, and_false, decide_true, decide_false, bi_T, bi_F, bi_0, bi_1, bi_z, bft, n10, n01, Nat.reduceEqDiff, Nat.reduceLT, Nat.reduceAdd, Nat.reduceMul, reduceCtorEq, nsubm, q1, q2, lbit hn, lb1, q4]
            refine step x ?_
            rw [q4]
            show x + (_ - 0 * _) = _
            omega
          · simp (disch := first | omega | exact xl) only [b_Hands_spreadWays_26, b_Hands_spreadWays_35, b_Hands_spreadWays_46, ↓reduceIte, nadd, nmul, nsub, nlt, neq, ncl, nvi, ndiv, nrem, exI, exJ, exV, eq_self, true_and, and_true, true_or, or_true, if_true, if_false, not_true, not_false_eq_true, false_and, and_false, decide_true, decide_false, bi_T, bi_F, bi_0, bi_1, bi_z, bft, n10, n01, Nat.reduceEqDiff, Nat.reduceLT, Nat.reduceAdd, Nat.reduceMul, reduceCtorEq, nsubm, q1, q2, lbit hn, lb1, q4, nxor, k3, n3, hxr]
            refine step (x + w (s ^^^ p)) ?_
            rw [q4] at hle ⊢
            have : true.toNat * w (s ^^^ p) = w (s ^^^ p) := Nat.one_mul _
            omega
      exact inner s (Nat.le_refl _) (Nat.and_self _) 0 0 (by omega) (by rw [prt_all (by omega), Nat.zero_add])
  exact key 0 (by omega) I Fr_rf (fun r hr => absurd hr (by omega)) _ _ _
end HA
