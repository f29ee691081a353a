/-! ===== the least passing: the reference, its first ===== -/
theorem bk11 {S : Nat → Nat → Nat} {LF : aLF} : ∀ f, f ≤ 6 → ∀ c, c < 4096 → (∀ j, j < f → sOn2 S j 11 = true ∨ dg 6 c j = 0) → bkS S LF 11 (dpS S LF 0) f c = (0, 1)
  | 0, _, c, _, _ => rfl
  | f + 1, hf, c, hc, h => by
    have e12 : sOn2 S f 12 = false := by unfold sOn2; rw [decide_eq_false (by omega), Bool.false_and]
    have ih := bk11 (S := S) (LF := LF) f (by omega) (sd c f 0) (sd_lt hc (by omega) (by decide)) (fun j hj => by
      rw [dg_sd hc (by omega) (by decide) (by omega), if_neg (by omega)]
      exact h j (by omega))
    show bk1 S LF 11 f (bkS S LF 11 (dpS S LF 0) f) c = _
    unfold bk1
    rw [e12, if_pos (h f (by omega))]
    have ep : psv S LF f 11 (dg 6 c f) 0 = 0 := by unfold psv; rw [if_neg (by rw [e12, Bool.and_false]; simp)]
    have em : mt (bkS S LF 11 (dpS S LF 0) f) (psv S LF f 11 (dg 6 c f)) c f (if false = true then 4 else 1) = (0, 1) := by
      rw [if_neg (by decide)]
      show (if _ ∧ _ then _ else _) = _
      rw [ih, ep]
      rfl
    rw [em]
    rfl
theorem isB_on {S : Nat → Nat → Nat} (hB : SB S) {LF : aLF} {b c j : Nat} (h : isB S LF b c = true) (hj : j < 6) : sOn S j b = true ∨ dg 6 c j = 0 := by
  unfold isB isH at h
  rw [Bool.and_eq_true, Bool.and_eq_true] at h
  have h := of_decide_eq_true h.1.1
  cases q : sOn S j b
  · right
    exact h j hj (by rw [ons_bit hB hj]; exact q)
  · left; rfl
def lsF (D : aM) : Nat → Nat × Nat
  | 0 => (1000000, 0)
  | n + 1 => ((if (D n).1 < (lsF D n).1 then (D n).1 else (lsF D n).1), (if (D n).1 < (lsF D n).1 then 0 else (lsF D n).2) + (if (D n).1 = (if (D n).1 < (lsF D n).1 then (D n).1 else (lsF D n).1) ∧ (if (D n).1 < (lsF D n).1 then (D n).1 else (lsF D n).1) < 1000000 then (D n).2 else 0))
theorem lsF_b {D : aM} {n : Nat} (hD : FB n D) : ∀ k, k ≤ 4096 → ((lsF D k).1 = 1000000 ∨ ((lsF D k).1 ≤ n ∧ ∃ c, c < k ∧ (D c).1 = (lsF D k).1)) ∧ (lsF D k).2 ≤ k * 1000000000
  | 0, _ => ⟨Or.inl rfl, Nat.le_refl _⟩
  | k + 1, hk => by
    have ih := lsF_b hD k (by omega)
    have h := hD k (by omega)
    unfold lsF
    refine ⟨?_, ?_⟩
    · show (if (D k).1 < (lsF D k).1 then (D k).1 else (lsF D k).1) = 1000000 ∨ ((if (D k).1 < (lsF D k).1 then (D k).1 else (lsF D k).1) ≤ n ∧ ∃ c, c < k + 1 ∧ (D c).1 = (if (D k).1 < (lsF D k).1 then (D k).1 else (lsF D k).1))
      by_cases q : (D k).1 < (lsF D k).1
      · rw [if_pos q]
        rcases h.1 with h | h
        · exact Or.inl h
        · exact Or.inr ⟨h, k, by omega, rfl⟩
      · rw [if_neg q]
        rcases ih.1 with ih | ⟨ih, c, hc, e⟩
        · exact Or.inl ih
        · exact Or.inr ⟨ih, c, by omega, e⟩
    · show (if _ then 0 else (lsF D k).2) + (if _ then (D k).2 else 0) ≤ _
      have a1 : ∀ (p : Prop) [Decidable p] (x : Nat), (if p then x else 0) ≤ x := by intro p _ x; split <;> omega
      have a2 : ∀ (p : Prop) [Decidable p] (x : Nat), (if p then 0 else x) ≤ x := by intro p _ x; split <;> omega
      refine Nat.le_trans (Nat.add_le_add (a2 _ _) (a1 _ _)) ?_
      omega
def cst (S : Nat → Nat → Nat) (LF : aLF) (b c : Nat) : Nat := (dpS S LF (12 - b) c).1
def pbt (S : Nat → Nat → Nat) (LF : aLF) (b c e : Nat) : Nat := fb_sm (fun f => psv S LF f b (dg 6 c f) (dg 6 e f)) 6
def lcS (S : Nat → Nat → Nat) (LF : aLF) : Nat := (lsF (dpS S LF 12) 4096).1
def lwS (S : Nat → Nat → Nat) (LF : aLF) : Nat := min 1000000000 (lsF (dpS S LF 12) 4096).2
def fit (S : Nat → Nat → Nat) (LF : aLF) (b had left c : Nat) : Bool := decide (cst S LF b c ≠ 1000000 ∧ cst S LF b c + (if b = 0 then 0 else pbt S LF (b - 1) had c) = left)
def fcS (S : Nat → Nat → Nat) (LF : aLF) : Nat → Nat × Nat
  | 0 => (0, lcS S LF)
  | b + 1 => (fa_first (fit S LF b (fcS S LF b).1 (fcS S LF b).2) 4096, cst S LF b (fa_first (fit S LF b (fcS S LF b).1 (fcS S LF b).2) 4096))
theorem mt_ex {M : aM} {pas : Nat → Nat} {c f : Nat} : ∀ k, (mt M pas c f k).1 < 1000000 → ∃ t, t < k ∧ (M (sd c f t)).1 < 1000000 ∧ (mt M pas c f k).1 = (M (sd c f t)).1 + pas t
  | 0, h => absurd h (by show ¬ 1000000 < 1000000; omega)
  | k + 1, h => by
    unfold mt at h ⊢
    by_cases q : (M (sd c f k)).1 < 1000000 ∧ (M (sd c f k)).1 + pas k ≤ (mt M pas c f k).1
    · rw [if_pos q]
      exact ⟨k, by omega, q.1, rfl⟩
    · rw [if_neg q] at h ⊢
      obtain ⟨t, h1, h2, h3⟩ := mt_ex k h
      exact ⟨t, by omega, h2, h3⟩
theorem bkS_ex {S : Nat → Nat → Nat} {LF : aLF} {b : Nat} {M : aM} : ∀ f, f ≤ 6 → ∀ c, c < 4096 → (bkS S LF b M f c).1 < 1000000 → ∃ e, e < 4096 ∧ (M e).1 < 1000000 ∧ (bkS S LF b M f c).1 = (M e).1 + fb_sm (fun j => psv S LF j b (dg 6 c j) (dg 6 e j)) f ∧ ∀ j, f ≤ j → j < 6 → dg 6 e j = dg 6 c j
  | 0, _, c, hc, h => ⟨c, hc, h, rfl, fun _ _ _ => rfl⟩
  | f + 1, hf, c, hc, h => by
    have e1 : (bkS S LF b M (f + 1) c).1 = if sOn2 S f b = true ∨ dg 6 c f = 0 then (mt (bkS S LF b M f) (psv S LF f b (dg 6 c f)) c f (if sOn2 S f (b + 1) then 4 else 1)).1 else 1000000 := rfl
    rw [e1] at h ⊢
    by_cases q : sOn2 S f b = true ∨ dg 6 c f = 0
    rotate_left
    · rw [if_neg q] at h; omega
    rw [if_pos q] at h ⊢
    obtain ⟨t, h1, h2, h3⟩ := mt_ex _ h
    have ht : t < 4 := Nat.lt_of_lt_of_le h1 (by split <;> omega)
    obtain ⟨e, g1, g2, g3, g4⟩ := bkS_ex f (by omega) (sd c f t) (sd_lt hc (by omega) ht) h2
    refine ⟨e, g1, g2, ?_, ?_⟩
    · rw [h3, g3, fb_sm_succ]
      have e2 : dg 6 e f = t := by rw [g4 f (by omega) (by omega), dg_sd hc (by omega) ht (by omega), if_pos rfl]
      rw [e2]
      have e3 : fb_sm (fun j => psv S LF j b (dg 6 (sd c f t) j) (dg 6 e j)) f = fb_sm (fun j => psv S LF j b (dg 6 c j) (dg 6 e j)) f := fb_sm_cong (fun j hj => by rw [dg_sd hc (by omega) ht (by omega), if_neg (by omega)])
      rw [e3]
      omega
    · intro j hj hj6
      rw [g4 j (by omega) hj6, dg_sd hc (by omega) ht hj6, if_neg (by omega)]
theorem fit_iff {S : Nat → Nat → Nat} {LF : aLF} {b had left c : Nat} : fit S LF b had left c = true ↔ cst S LF b c ≠ 1000000 ∧ cst S LF b c + (if b = 0 then 0 else pbt S LF (b - 1) had c) = left := by
  unfold fit
  exact decide_eq_true_iff
theorem first_lt {p : Nat → Bool} {n c : Nat} (hc : c < n) (h : p c = true) : fa_first p n < n := by
  apply Classical.byContradiction
  intro q
  have := fa_first_le p n
  have := fa_first_no p n c (by omega)
  rw [h] at this
  cases this
/-- in each beat there is one that fits -/
theorem fc_ok {S : Nat → Nat → Nat} {LF : aLF} (hl : lcS S LF < 1000000) : ∀ b, b ≤ 12 → (fcS S LF b).1 < 4096 ∧ (0 < b → (fcS S LF b).2 < 1000000 ∧ (fcS S LF b).2 = cst S LF (b - 1) (fcS S LF b).1) ∧ (b < 12 → ∃ c, c < 4096 ∧ fit S LF b (fcS S LF b).1 (fcS S LF b).2 c = true)
  | 0, _ => by
    refine ⟨by show 0 < 4096; omega, fun h => absurd h (by omega), fun _ => ?_⟩
    have h := (lsF_b (dpS_b (S := S) (LF := LF) 12 (Nat.le_refl _)) 4096 (Nat.le_refl _)).1
    rcases h with h | ⟨_, c, hc, e⟩
    · unfold lcS at hl
      omega
    · refine ⟨c, hc, ?_⟩
      rw [fit_iff]
      have e2 : cst S LF 0 c = lcS S LF := by unfold cst lcS; exact e
      have e0 : (fcS S LF 0).2 = lcS S LF := by simp only [fcS]
      rw [if_pos rfl, e0]
      omega
  | b + 1, hb => by
    obtain ⟨h1, h2, h3⟩ := fc_ok hl b (by omega)
    obtain ⟨c, hc, hfc⟩ := h3 (by omega)
    have hlt := first_lt hc hfc
    have hyes := fa_first_yes _ _ hlt
    have e1 : (fcS S LF (b + 1)).1 = fa_first (fit S LF b (fcS S LF b).1 (fcS S LF b).2) 4096 := by simp only [fcS]
    have e2 : (fcS S LF (b + 1)).2 = cst S LF b (fa_first (fit S LF b (fcS S LF b).1 (fcS S LF b).2) 4096) := by simp only [fcS]
    generalize fa_first (fit S LF b (fcS S LF b).1 (fcS S LF b).2) 4096 = c0 at *
    rw [fit_iff] at hyes
    have hb0 : cst S LF b c0 < 1000000 := by
      have := (dpS_b (S := S) (LF := LF) (12 - b) (by omega) c0 hlt).1
      have h0 := hyes.1
      unfold cst at h0 ⊢
      omega
    rw [e1, e2]
    refine ⟨hlt, fun _ => ⟨hb0, by rw [Nat.add_sub_cancel]⟩, fun hb12 => ?_⟩
    have ek : 12 - b = (12 - (b + 1)) + 1 := by omega
    have hD : (dpS S LF (12 - b) c0).1 < 1000000 := hb0
    rw [ek] at hD
    have eD : dpS S LF (12 - (b + 1) + 1) c0 = if isB S LF b c0 then bkS S LF b (dpS S LF (12 - (b + 1))) 6 c0 else (1000000, 0) := by
      show (if isB S LF (11 - (12 - (b + 1))) c0 then bkS S LF (11 - (12 - (b + 1))) (dpS S LF (12 - (b + 1))) 6 c0 else _) = _
      rw [show 11 - (12 - (b + 1)) = b by omega]
    have eC : cst S LF b c0 = (dpS S LF (12 - (b + 1) + 1) c0).1 := by unfold cst; rw [ek]
    rw [eD] at hD eC
    by_cases q : isB S LF b c0 = true
    · rw [if_pos q] at hD eC
      obtain ⟨e, g1, g2, g3, -⟩ := bkS_ex 6 (Nat.le_refl _) c0 hlt hD
      refine ⟨e, g1, ?_⟩
      rw [fit_iff, if_neg (by omega), Nat.add_sub_cancel]
      have e3 : cst S LF (b + 1) e = (dpS S LF (12 - (b + 1)) e).1 := rfl
      refine ⟨by omega, ?_⟩
      rw [eC, g3, e3]
      rfl
    · rw [if_neg q] at hD
      exact absurd hD (by show ¬ 1000000 < 1000000; omega)
section MD
variable {d : Nat} {g : aG} {I : Nat → Nat → Int32} {J : Nat → Nat → Int64} {Q : aQ} {S : Nat → Nat → Nat} {T : Nat → Int32} {LF : aLF}
theorem c_reckonBeat (hg : Geo g) (hB : SB S) (hM : MS S T (I 91)) {sc : Nat → Nat → Int32} (hL : LJ LF sc (I 91)) {b : Nat} (hb : b < 12) (hA : b < 11 → mA (dpS S LF (11 - b)) (fun c => 4096 * (b + 1) + c) I 105 106) (hQ : ∀ I' J', Xd I I' → Xj J J' → mA (dpS S LF (12 - b)) (fun c => 4096 * b + c) I' 105 106 → (∀ i, 4096 * (b + 1) ≤ i → I' 105 i = I 105 i ∧ I' 106 i = I 106 i) → Q none (g, I', J')) : a_call aTab aMX (d + 7) m_Mo_reckonBeat [.ref 89, .int (nI b)] (g, I, J) Q := by
  have ht := sb10 hB
  have ol := ons_lt hB b
  rw [e_Mo_reckonBeat, b_Mo_reckonBeat_0 hg, c_mOnBits hg hB hM hb]
  simp only [exI, b_Mo_reckonBeat_5]
  have ek : dpS S LF (12 - b) = fun c => if isB S LF b c then bkS S LF b (dpS S LF (11 - b)) 6 c else (1000000, 0) := by
    rw [show 12 - b = (11 - b) + 1 by omega]
    show (fun c => if isB S LF (11 - (11 - b)) c then bkS S LF (11 - (11 - b)) (dpS S LF (11 - b)) 6 c else (1000000, 0)) = _
    rw [show 11 - (11 - b) = b by omega]
  -- the last loop
  have loop3 : ∀ k, k ≤ 4096 → ∀ I2 J2, Xd I I2 → Xj J J2 → (∀ c, c < 4096 → isB S LF b c = true → I2 107 c = nI (bkS S LF b (dpS S LF (11 - b)) 6 c).1 ∧ I2 108 c = nI (bkS S LF b (dpS S LF (11 - b)) 6 c).2) → (∀ h q, h < 4 → q < 64 → I2 104 (64 * h + q) = bi (decide (q &&& sOns S b = q) && canS S LF h b q)) → (∀ c, c < k → I2 105 (4096 * b + c) = nI (dpS S LF (12 - b) c).1 ∧ I2 106 (4096 * b + c) = nI (dpS S LF (12 - b) c).2) → (∀ i, 4096 * (b + 1) ≤ i → I2 105 i = I 105 i ∧ I2 106 i = I 106 i) → ∀ v4, a_wp aTab aMX (d + 6) m_Mo_reckonBeat 129 [.ref 89, .int (nI b), .int (nI (sOns S b)), .int (nI k), v4] [] (g, I2, J2) Q := by
    refine dn ?_ ?_
    · intro I2 J2 g1 g2 g3 g4 g5 g9 v4
      simp (disch := omega) only [b_Mo_reckonBeat_129, b_Mo_reckonBeat_211, ↓reduceIte, nadd, nmul, nsub, nlt, neq, ncl, nvi, ndiv, nrem, exI, exJ, exV, eq_self, true_and, and_true, true_or, or_true, if_true, if_false, not_true, not_false_eq_true, false_and, and_false, decide_true, decide_false, bi_T, bi_F, bi_0, bi_1, bi_z, bft, n10, n01, Nat.reduceEqDiff, Nat.reduceLT, Nat.reduceAdd, Nat.reduceMul, reduceCtorEq, Nat.lt_irrefl]
      exact hQ I2 J2 g1 g2 g5 g9
    · intro k hk ih I2 J2 g1 g2 g3 g4 g5 g9 v4
      have e91 : I2 91 = I 91 := Xd_r g1 (by decide) (by decide)
      have hM2 : MS S T (I2 91) := by rw [e91]; exact hM
      have eh : isH (fun h q => decide (q &&& sOns S b = q) && canS S LF h b q) (S 10 2) (sOns S b) k = isB S LF b k := isH_cong (fun h q _ hq _ => by rw [decide_eq_true hq, Bool.true_and])
      rw [b_Mo_reckonBeat_129]
      simp (disch := omega) only [b_Mo_reckonBeat_136 hg, b_Mo_reckonBeat_144 hg, ↓reduceIte, nadd, nmul, nsub, nlt, neq, ncl, nvi, ndiv, nrem, exI, exJ, exV, eq_self, true_and, and_true, true_or, or_true, if_true, if_false, not_true, not_false_eq_true, false_and, and_false, decide_true, decide_false, bi_T, bi_F, bi_0, bi_1, bi_z, bft, n10, n01, Nat.reduceEqDiff, Nat.reduceLT, Nat.reduceAdd, Nat.reduceMul, reduceCtorEq, hk, c_term hg, ms2 hM2, ms2r hM2, c_isHolding hg hk ol ht.2.2.2.1 g4, eh]
      have ed : dpS S LF (12 - b) k = if isB S LF b k then bkS S LF b (dpS S LF (11 - b)) 6 k else (1000000, 0) := by rw [ek]
      have put : ∀ x y : Nat, (x, y) = dpS S LF (12 - b) k → (∀ v4, a_wp aTab aMX (d + 6) m_Mo_reckonBeat 204 [.ref 89, .int (nI b), .int (nI (sOns S b)), .int (nI k), v4] [.int (nI y), .int (nI (4096 * b + k)), .ref 106] (g, u2 I2 105 (4096 * b + k) (nI x), J2) Q) := by
        intro x y hxy v4
        rw [b_Mo_reckonBeat_204 hg]
        simp (disch := omega) only [↓reduceIte, nadd, nmul, nsub, nlt, neq, ncl, nvi, ndiv, nrem, exI, exJ, exV, eq_self, true_and, and_true, true_or, or_true, if_true, if_false, not_true, not_false_eq_true, false_and, and_false, decide_true, decide_false, bi_T, bi_F, bi_0, bi_1, bi_z, bft, n10, n01, Nat.reduceEqDiff, Nat.reduceLT, Nat.reduceAdd, Nat.reduceMul, reduceCtorEq]
        refine ih _ _ (Xd_u (by omega) (Xd_u (by omega) g1)) g2 ?_ ?_ ?_ ?_ _
        · intro c hc hb2
          rw [u2_a (by decide), u2_a (by decide), u2_a (by decide), u2_a (by decide)]
          exact g3 c hc hb2
        · intro h q hh hq
          rw [u2_a (by decide), u2_a (by decide)]
          exact g4 h q hh hq
        · intro c hc
          by_cases q : c = k
          · rw [q, ← hxy, u2_a (by decide), u2_s, u2_s]
            exact ⟨rfl, rfl⟩
          · rw [u2_a (by decide), u2_k (by omega), u2_k (by omega), u2_a (by decide)]
            exact g5 c (by omega)
        · intro i hi
          rw [u2_a (by decide), u2_k (by omega), u2_k (by omega), u2_a (by decide)]
          exact g9 i hi
      cases qb : isB S LF b k
      · rw [qb, if_neg (by decide)] at ed
        simp (disch := omega) only [b_Mo_reckonBeat_147 hg, b_Mo_reckonBeat_174, b_Mo_reckonBeat_177 hg, b_Mo_reckonBeat_203, ↓reduceIte, nadd, nmul, nsub, nlt, neq, ncl, nvi, ndiv, nrem, exI, exJ, exV, eq_self, true_and, and_true, true_or, or_true, if_true, if_false, not_true, not_false_eq_true, false_and, and_false, decide_true, decide_false, bi_T, bi_F, bi_0, bi_1, bi_z, bft, n10, n01, Nat.reduceEqDiff, Nat.reduceLT, Nat.reduceAdd, Nat.reduceMul, reduceCtorEq]
        exact put _ _ ed.symm _
      · rw [qb, if_pos rfl] at ed
        have g3k := g3 k hk qb
        have x8 : u2 I2 105 (4096 * b + k) (nI (bkS S LF b (dpS S LF (11 - b)) 6 k).1) 108 k = nI (bkS S LF b (dpS S LF (11 - b)) 6 k).2 := by rw [u2_a (by decide)]; exact g3k.2
        simp (disch := omega) only [b_Mo_reckonBeat_147 hg, b_Mo_reckonBeat_165 hg, b_Mo_reckonBeat_177 hg, b_Mo_reckonBeat_194 hg, ↓reduceIte, nadd, nmul, nsub, nlt, neq, ncl, nvi, ndiv, nrem, exI, exJ, exV, eq_self, true_and, and_true, true_or, or_true, if_true, if_false, not_true, not_false_eq_true, false_and, and_false, decide_true, decide_false, bi_T, bi_F, bi_0, bi_1, bi_z, bft, n10, n01, Nat.reduceEqDiff, Nat.reduceLT, Nat.reduceAdd, Nat.reduceMul, reduceCtorEq, g3k.1, x8, Nat.one_ne_zero]
        exact put _ _ ed.symm _
  -- holdings
  have mid : ∀ I2 J2, Xd I I2 → I2 105 = I 105 → I2 106 = I 106 → Xj J J2 → (∀ c, c < 4096 → isB S LF b c = true → I2 107 c = nI (bkS S LF b (dpS S LF (11 - b)) 6 c).1 ∧ I2 108 c = nI (bkS S LF b (dpS S LF (11 - b)) 6 c).2) → ∀ v3, a_wp aTab aMX (d + 6) m_Mo_reckonBeat 121 [.ref 89, .int (nI b), .int (nI (sOns S b)), v3, aU] [] (g, I2, J2) Q := by
    intro I2 J2 g1 g5 g6 g2 g3 v3
    have e91 : I2 91 = I 91 := Xd_r g1 (by decide) (by decide)
    rw [b_Mo_reckonBeat_121 hg]
    refine c_findCan hg hB (by rw [e91]; exact hM) (by rw [e91]; exact hL) hb (Nat.and_self _) ?_
    intro I3 J3 r1 r2 r3
    refine ⟨rfl, ?_⟩
    rw [b_Mo_reckonBeat_127]
    refine loop3 0 (by omega) I3 J3 (Xd_tr g1 (Xd_h r1)) (Xj_tr g2 r2) ?_ r3 (fun c hc => absurd hc (by omega)) (fun i _ => by rw [Xh_r r1 (by decide) (by decide), Xh_r r1 (by decide) (by decide), g5, g6]; exact ⟨rfl, rfl⟩) _
    intro c hc hb2
    rw [Xh_r r1 (by decide) (by decide), Xh_r r1 (by decide) (by decide)]
    exact g3 c hc hb2
  by_cases q11 : b = 11
  · subst q11
    have loop1 : ∀ k, k ≤ 4096 → ∀ I2, Xd I I2 → I2 105 = I 105 → I2 106 = I 106 → (∀ c, c < k → I2 107 c = nI 0 ∧ I2 108 c = nI 1) → a_wp aTab aMX (d + 6) m_Mo_reckonBeat 8 [.ref 89, .int (nI 11), .int (nI (sOns S 11)), .int (nI k), aU] [] (g, I2, J) Q := by
      refine dn ?_ ?_
      · intro I2 g1 g5 g6 g3
        simp (disch := omega) only [b_Mo_reckonBeat_8, b_Mo_reckonBeat_81, b_Mo_reckonBeat_83, b_Mo_reckonBeat_89, ↓reduceIte, nadd, nmul, nsub, nlt, neq, ncl, nvi, ndiv, nrem, exI, exJ, exV, eq_self, true_and, and_true, true_or, or_true, if_true, if_false, not_true, not_false_eq_true, false_and, and_false, decide_true, decide_false, bi_T, bi_F, bi_0, bi_1, bi_z, bft, n10, n01, Nat.reduceEqDiff, Nat.reduceLT, Nat.reduceAdd, Nat.reduceMul, reduceCtorEq, Nat.lt_irrefl]
        refine mid I2 J g1 g5 g6 Xj_rf ?_ _
        intro c hc hb2
        rw [bk11 6 (Nat.le_refl _) c hc (fun j hj => by rw [sOn2_lt (by omega)]; exact isB_on hB hb2 hj)]
        exact g3 c hc
      · intro k hk ih I2 g1 g5 g6 g3
        rw [b_Mo_reckonBeat_8]
        simp (disch := omega) only [b_Mo_reckonBeat_15 hg, b_Mo_reckonBeat_26, b_Mo_reckonBeat_44 hg, b_Mo_reckonBeat_56, b_Mo_reckonBeat_74 hg, ↓reduceIte, nadd, nmul, nsub, nlt, neq, ncl, nvi, ndiv, nrem, exI, exJ, exV, eq_self, true_and, and_true, true_or, or_true, if_true, if_false, not_true, not_false_eq_true, false_and, and_false, decide_true, decide_false, bi_T, bi_F, bi_0, bi_1, bi_z, bft, n10, n01, Nat.reduceEqDiff, Nat.reduceLT, Nat.reduceAdd, Nat.reduceMul, reduceCtorEq, hk]
        refine ih _ (Xd_u (by omega) (Xd_u (by omega) g1)) (by rw [u2_r (by decide), u2_r (by decide)]; exact g5) (by rw [u2_r (by decide), u2_r (by decide)]; exact g6) ?_
        intro c hc
        by_cases q : c = k
        · rw [q, u2_a (by decide), u2_s, u2_s]
          exact ⟨rfl, rfl⟩
        · rw [u2_a (by decide), u2_k q, u2_k q, u2_a (by decide)]
          exact g3 c (by omega)
    exact loop1 0 (by omega) I Xd_rf rfl rfl (fun c hc => absurd hc (by omega))
  · have hb11 : b < 11 := by omega
    have hA := hA hb11
    have loop2 : ∀ f, f ≤ 6 → ∀ I2 J2, Xd I I2 → I2 105 = I 105 → I2 106 = I 106 → Xj J J2 → mA (bkS S LF b (dpS S LF (11 - b)) f) (fun c => c) I2 107 108 → a_wp aTab aMX (d + 6) m_Mo_reckonBeat 83 [.ref 89, .int (nI b), .int (nI (sOns S b)), .int (nI f), aU] [] (g, I2, J2) Q := by
      refine dn ?_ ?_
      · intro I2 J2 g1 g5 g6 g2 g3
        simp (disch := omega) only [b_Mo_reckonBeat_83, ↓reduceIte, nadd, nmul, nsub, nlt, neq, ncl, nvi, ndiv, nrem, exI, exJ, exV, eq_self, true_and, and_true, true_or, or_true, if_true, if_false, not_true, not_false_eq_true, false_and, and_false, decide_true, decide_false, bi_T, bi_F, bi_0, bi_1, bi_z, bft, n10, n01, Nat.reduceEqDiff, Nat.reduceLT, Nat.reduceAdd, Nat.reduceMul, reduceCtorEq, Nat.lt_irrefl]
        exact mid I2 J2 g1 g5 g6 g2 (fun c hc _ => g3 c hc) _
      · intro f hf ih I2 J2 g1 g5 g6 g2 g3
        have e91 : I2 91 = I 91 := Xd_r g1 (by decide) (by decide)
        have hM2 : MS S T (I2 91) := by rw [e91]; exact hM
        rw [b_Mo_reckonBeat_83]
        simp (disch := omega) only [b_Mo_reckonBeat_89, b_Mo_reckonBeat_95 hg, b_Mo_reckonBeat_104 hg, b_Mo_reckonBeat_112 hg, ↓reduceIte, nadd, nmul, nsub, nlt, neq, ncl, nvi, ndiv, nrem, exI, exJ, exV, eq_self, true_and, and_true, true_or, or_true, if_true, if_false, not_true, not_false_eq_true, false_and, and_false, decide_true, decide_false, bi_T, bi_F, bi_0, bi_1, bi_z, bft, n10, n01, Nat.reduceEqDiff, Nat.reduceLT, Nat.reduceAdd, Nat.reduceMul, reduceCtorEq, hf, hb11, c_mIsOn hg hB hM2]
        refine c_backFigure hg hB hM2 (by rw [e91]; exact hL) (bkS_b (dpS_b (11 - b) (by omega)) (by omega) f (by omega)) (by omega) hf hb11 g3 ?_
        intro I3 J3 r1 r5 r6 r2 r3
        refine ⟨rfl, ?_⟩
        rw [b_Mo_reckonBeat_115, nadd]
        exact ih I3 J3 (Xd_tr g1 r1) (r5.trans g5) (r6.trans g6) (Xj_tr g2 r2) r3
    have loop1 : ∀ k, k ≤ 4096 → ∀ I2, Xd I I2 → I2 105 = I 105 → I2 106 = I 106 → (∀ c, c < k → I2 107 c = nI (dpS S LF (11 - b) c).1 ∧ I2 108 c = nI (dpS S LF (11 - b) c).2) → a_wp aTab aMX (d + 6) m_Mo_reckonBeat 8 [.ref 89, .int (nI b), .int (nI (sOns S b)), .int (nI k), aU] [] (g, I2, J) Q := by
      refine dn ?_ ?_
      · intro I2 g1 g5 g6 g3
        simp (disch := omega) only [b_Mo_reckonBeat_8, b_Mo_reckonBeat_81, ↓reduceIte, nadd, nmul, nsub, nlt, neq, ncl, nvi, ndiv, nrem, exI, exJ, exV, eq_self, true_and, and_true, true_or, or_true, if_true, if_false, not_true, not_false_eq_true, false_and, and_false, decide_true, decide_false, bi_T, bi_F, bi_0, bi_1, bi_z, bft, n10, n01, Nat.reduceEqDiff, Nat.reduceLT, Nat.reduceAdd, Nat.reduceMul, reduceCtorEq, Nat.lt_irrefl]
        exact loop2 0 (by omega) I2 J g1 g5 g6 Xj_rf g3
      · intro k hk ih I2 g1 g5 g6 g3
        have hk2 := hA k hk
        have a5 : I2 105 (4096 * (b + 1) + k) = nI (dpS S LF (11 - b) k).1 := by rw [g5]; exact hk2.1
        have a6 : ∀ z, u2 I2 107 k z 106 (4096 * (b + 1) + k) = nI (dpS S LF (11 - b) k).2 := fun z => by rw [u2_a (by decide), g6]; exact hk2.2
        rw [b_Mo_reckonBeat_8]
        simp (disch := omega) only [b_Mo_reckonBeat_15 hg, b_Mo_reckonBeat_30 hg, b_Mo_reckonBeat_44 hg, b_Mo_reckonBeat_60 hg, b_Mo_reckonBeat_74 hg, ↓reduceIte, nadd, nmul, nsub, nlt, neq, ncl, nvi, ndiv, nrem, exI, exJ, exV, eq_self, true_and, and_true, true_or, or_true, if_true, if_false, not_true, not_false_eq_true, false_and, and_false, decide_true, decide_false, bi_T, bi_F, bi_0, bi_1, bi_z, bft, n10, n01, Nat.reduceEqDiff, Nat.reduceLT, Nat.reduceAdd, Nat.reduceMul, reduceCtorEq, hk, q11, a5, a6]
        refine ih _ (Xd_u (by omega) (Xd_u (by omega) g1)) ?_ ?_ ?_
        · rw [u2_r (by decide), u2_r (by decide)]; exact g5
        · rw [u2_r (by decide), u2_r (by decide)]; exact g6
        · intro c hc
          by_cases q : c = k
          · rw [q, u2_a (by decide), u2_s, u2_s]
            exact ⟨rfl, rfl⟩
          · rw [u2_a (by decide), u2_k q, u2_k q, u2_a (by decide)]
            exact g3 c (by omega)
    exact loop1 0 (by omega) I Xd_rf rfl rfl (fun c hc => absurd hc (by omega))
end MD
