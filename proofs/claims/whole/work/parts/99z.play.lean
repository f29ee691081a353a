/-! ===== play: moves and laws are taken ===== -/
def mv1 (S : Nat → Nat → Nat) (w : aMv) (b : Nat) : Nat → Nat → Nat := u2 (u2 (u2 S 11 (w.2.2.1 * 12 + b) w.2.2.2.1) 12 (w.2.2.1 * 12 + b) w.2.2.2.2.1) 13 (w.2.2.1 * 12 + b) w.2.2.2.2.2
def mvs (S : Nat → Nat → Nat) (w : aMv) : Nat → Nat → Nat → Nat
  | 0 => S
  | k + 1 => mv1 (mvs S w k) w (w.1 + k)
def dMv : aMv := (0, 0, 0, 0, 0, 0)
def mvi (S : Nat → Nat → Nat) (M : List aMv) : Nat → Nat → Nat → Nat
  | 0 => S
  | i + 1 => mvs (mvi S M i) (M.getD i dMv) ((M.getD i dMv).2.1 + 1 - (M.getD i dMv).1)
theorem getD_some {α : Type} {l : List α} {i : Nat} {x : α} (h : i < l.length) : l[i]? = some (l.getD i x) := by
  rw [List.getD_eq_getElem?_getD, List.getElem?_eq_getElem h]
  rfl
theorem getD_mem {α : Type} {l : List α} {i : Nat} {x : α} (h : i < l.length) : l.getD i x ∈ l := List.mem_of_getElem? (getD_some h)
theorem mv1_SB {S : Nat → Nat → Nat} {w : aMv} {b : Nat} (h : SB S) (hw : MVp w) : SB (mv1 S w b) := by
  obtain ⟨w1, w2, w3, w4, w5, w6⟩ := hw
  exact SBu (SBu (SBu h (by omega) (by omega) (by omega) (by omega) (by omega) (by omega) (by omega)) (by omega) (by omega) (by omega) (by omega) (by omega) (by omega) (by omega)) (by omega) (by omega) (by omega) (by omega) (by omega) (by omega) (by omega)
theorem mv1_o {S : Nat → Nat → Nat} {w : aMv} {b a : Nat} (h : ¬ (11 ≤ a ∧ a ≤ 13)) : mv1 S w b a = S a := by
  unfold mv1
  rw [u2_r (by omega), u2_r (by omega), u2_r (by omega)]
theorem mvs_P {S : Nat → Nat → Nat} {w : aMv} (h : SB S) (hw : MVp w) : ∀ k, SB (mvs S w k) ∧ ∀ a, ¬ (11 ≤ a ∧ a ≤ 13) → mvs S w k a = S a
  | 0 => ⟨h, fun _ _ => rfl⟩
  | k + 1 => by
    have ih := mvs_P h hw k
    exact ⟨mv1_SB ih.1 hw, fun a ha => by show mv1 (mvs S w k) w (w.1 + k) a = S a; rw [mv1_o ha]; exact ih.2 a ha⟩
theorem mvi_P {S : Nat → Nat → Nat} {M : List aMv} (h : SB S) (hM : ∀ w ∈ M, MVp w) : ∀ i, i ≤ M.length → SB (mvi S M i) ∧ ∀ a, ¬ (11 ≤ a ∧ a ≤ 13) → mvi S M i a = S a
  | 0, _ => ⟨h, fun _ _ => rfl⟩
  | i + 1, hi => by
    have ih := mvi_P h hM i (by omega)
    have := mvs_P ih.1 (hM _ (getD_mem (x := dMv) (show i < M.length by omega))) ((M.getD i dMv).2.1 + 1 - (M.getD i dMv).1)
    exact ⟨this.1, fun a ha => by show mvs (mvi S M i) (M.getD i dMv) ((M.getD i dMv).2.1 + 1 - (M.getD i dMv).1) a = S a; rw [this.2 a ha]; exact ih.2 a ha⟩
section PLY
variable {N : Nat} {X : Nat → Int32} {ow : Nat → Nat} {S : Nat → Nat → Nat} {LF : aLF} {g : aG} {I : Nat → Nat → Int32} {J : Nat → Nat → Int64} {Q : aQ} {d : Nat} {M : List aMv}
def CM (S : Nat → Nat → Nat) (I I' : Nat → Nat → Int32) : Prop := (∀ a j, 7 ≤ a → a ≤ 13 → I' a j = nI (S a j)) ∧ ∀ a, ¬ (11 ≤ a ∧ a ≤ 13) → I' a = I a
theorem c_tellMoves (hg : Geo g) (hS : ∀ a j, 7 ≤ a → a ≤ 13 → I a j = nI (S a j)) (hM : ∀ w ∈ M, MVp w) (h4 : I 23 4 = nI M.length) (hl : M.length ≤ 24) (hV : MVc M I) (hQ : ∀ I', CM (mvi S M M.length) I I' → Q none (g, I', J)) : a_call aTab aMX (d + 3) m_Reader_tellMoves [.ref 23, .ref 7] (g, I, J) Q := by
  rw [e_Reader_tellMoves, b_Reader_tellMoves_0]
  refine dn (P := fun i => ∀ v3 v4 I', CM (mvi S M i) I I' → a_wp aTab aMX (d + 2) m_Reader_tellMoves 2 [.ref 23, .ref 7, .int (nI i), v3, v4] [] (g, I', J) Q) (n := M.length) ?_ ?_ 0 (by omega) _ _ I ⟨hS, fun _ _ => rfl⟩
  · intro v3 v4 I' f1
    have e4 : I' 23 4 = nI M.length := by rw [f1.2 23 (by decide)]; exact h4
    rw [b_Reader_tellMoves_2 hg, e4]
    simp (disch := omega) only [↓reduceIte, nadd, nmul, nsub, nlt, neq, ncl, nvi, ndiv, nrem, exI, exJ, exV, eq_self, true_and, and_true, true_or, or_true, if_true, if_false, not_true, not_false_eq_true, false_and, and_false, decide_true, decide_false, bi_T, bi_F, bi_0, bi_1, bi_z, bft, n10, n01, Nat.reduceEqDiff, Nat.reduceLT, Nat.reduceAdd, Nat.reduceMul, reduceCtorEq, Nat.lt_irrefl]
    rw [b_Reader_tellMoves_93]
    exact hQ I' f1
  · intro i hi ih v3 v4 I' f1
    have e4 : I' 23 4 = nI M.length := by rw [f1.2 23 (by decide)]; exact h4
    have hw := hM _ (getD_mem (x := dMv) hi)
    have hv := hV i _ (getD_some (x := dMv) hi)
    change ∀ v3 v4 I', CM (mvs (mvi S M i) (M.getD i dMv) ((M.getD i dMv).2.1 + 1 - (M.getD i dMv).1)) I I' → _ at ih
    obtain ⟨w1, w2, w3, w4, w5, w6⟩ := hw
    obtain ⟨x0, x1, x2, x3, x4, x5⟩ := hv
    rw [show 6 * i = i * 6 by omega] at x0 x1 x2 x3 x4 x5
    generalize M.getD i dMv = w at *
    generalize mvi S M i = S1 at *
    have e31 : ∀ I', CM S1 I I' → I' 31 = I 31 := fun I' f => f.2 31 (by decide)
    rw [b_Reader_tellMoves_2 hg, e4]
    simp (disch := omega) only [↓reduceIte, nadd, nmul, nsub, nlt, neq, ncl, nvi, ndiv, nrem, exI, exJ, exV, eq_self, true_and, and_true, true_or, or_true, if_true, if_false, not_true, not_false_eq_true, false_and, and_false, decide_true, decide_false, bi_T, bi_F, bi_0, bi_1, bi_z, bft, n10, n01, Nat.reduceEqDiff, Nat.reduceLT, Nat.reduceAdd, Nat.reduceMul, reduceCtorEq, hi, b_Reader_tellMoves_10 hg, f1.2 31 (by decide), x0]
    obtain ⟨n, en⟩ : ∃ n, n = w.2.1 + 1 - w.1 := ⟨_, rfl⟩
    rw [← en] at ih
    refine dn (P := fun k => ∀ I', CM (mvs S1 w k) I I' → a_wp aTab aMX (d + 2) m_Reader_tellMoves 23 [.ref 23, .ref 7, .int (nI i), .int (nI (i * 6)), .int (nI (w.1 + k))] [] (g, I', J) Q) (n := n) ?_ ?_ 0 (by omega) I' f1
    · intro I2 g1
      rw [b_Reader_tellMoves_23 hg]
      have q : w.2.1 < w.1 + n := by omega
      simp (disch := omega) only [↓reduceIte, nadd, nmul, nsub, nlt, neq, ncl, nvi, ndiv, nrem, exI, exJ, exV, eq_self, true_and, and_true, true_or, or_true, if_true, if_false, not_true, not_false_eq_true, false_and, and_false, decide_true, decide_false, bi_T, bi_F, bi_0, bi_1, bi_z, bft, n10, n01, Nat.reduceEqDiff, Nat.reduceLT, Nat.reduceAdd, Nat.reduceMul, reduceCtorEq, g1.2 31 (by decide), x1, q, b_Reader_tellMoves_87]
      exact ih _ _ I2 g1
    · intro k hk ih2 I2 g1
      rw [b_Reader_tellMoves_23 hg]
      have q : ¬ w.2.1 < w.1 + k := by omega
      have q2 : w.1 + k < 12 := by omega
      simp (disch := omega) only [↓reduceIte, nadd, nmul, nsub, nlt, neq, ncl, nvi, ndiv, nrem, exI, exJ, exV, eq_self, true_and, and_true, true_or, or_true, if_true, if_false, not_true, not_false_eq_true, false_and, and_false, decide_true, decide_false, bi_T, bi_F, bi_0, bi_1, bi_z, bft, n10, n01, Nat.reduceEqDiff, Nat.reduceLT, Nat.reduceAdd, Nat.reduceMul, reduceCtorEq, g1.2 31 (by decide), x1, x2, x3, x4, x5, q, q2, b_Reader_tellMoves_36, b_Reader_tellMoves_43 hg, b_Reader_tellMoves_81, c_put hg, put3]
      refine ih2 _ ⟨CSu (CSu (CSu g1.1)), fun a ha => ?_⟩
      rw [u2_r (by omega), u2_r (by omega), u2_r (by omega)]
      exact g1.2 a ha
def CR (S : Nat → Nat → Nat) (T : Nat → Int32) (I I' : Nat → Nat → Int32) : Prop := MS S T (I' 91) ∧ (∀ a, a ≠ 91 → I' a = I a) ∧ ∀ i, ¬ (64 ≤ i ∧ i < 352) → I' 91 i = I 91 i
theorem w_mMoves (hg : Geo g) {T : Nat → Int32} (hS : MS S T (I 91)) (hM : ∀ w ∈ M, MVp w) (h4 : I 89 27 = nI M.length) (hl : M.length ≤ 24) (hV : MVm M I) (hQ : ∀ v1 v2 I', CR (mvi S M M.length) T I I' → a_wp aTab aMX (d + 1) m_Mo_play 345 [.ref 89, v1, v2] [] (g, I', J) Q) (v2 : Value) : a_wp aTab aMX (d + 1) m_Mo_play 239 [.ref 89, .int (nI 0), v2] [] (g, I, J) Q := by
  refine dn (P := fun i => ∀ v2 I', CR (mvi S M i) T I I' → a_wp aTab aMX (d + 1) m_Mo_play 239 [.ref 89, .int (nI i), v2] [] (g, I', J) Q) (n := M.length) ?_ ?_ 0 (by omega) _ I ⟨hS, fun _ _ => rfl, fun _ _ => rfl⟩
  · intro v2 I' f1
    have e4 : I' 89 27 = nI M.length := by rw [f1.2.1 89 (by decide)]; exact h4
    rw [b_Mo_play_239 hg, e4]
    simp (disch := omega) only [↓reduceIte, nadd, nmul, nsub, nlt, neq, ncl, nvi, ndiv, nrem, exI, exJ, exV, eq_self, true_and, and_true, true_or, or_true, if_true, if_false, not_true, not_false_eq_true, false_and, and_false, decide_true, decide_false, bi_T, bi_F, bi_0, bi_1, bi_z, bft, n10, n01, Nat.reduceEqDiff, Nat.reduceLT, Nat.reduceAdd, Nat.reduceMul, reduceCtorEq, Nat.lt_irrefl]
    exact hQ _ _ I' f1
  · intro i hi ih v2 I' f1
    have e4 : I' 89 27 = nI M.length := by rw [f1.2.1 89 (by decide)]; exact h4
    have hw := hM _ (getD_mem (x := dMv) hi)
    have hv := hV i _ (getD_some (x := dMv) hi)
    change ∀ v2 I', CR (mvs (mvi S M i) (M.getD i dMv) ((M.getD i dMv).2.1 + 1 - (M.getD i dMv).1)) T I I' → _ at ih
    obtain ⟨w1, w2, w3, w4, w5, w6⟩ := hw
    obtain ⟨x0, x1, x2, x3, x4, x5, x6⟩ := hv
    generalize M.getD i dMv = w at *
    generalize mvi S M i = S1 at *
    rw [b_Mo_play_239 hg, e4]
    simp (disch := omega) only [↓reduceIte, nadd, nmul, nsub, nlt, neq, ncl, nvi, ndiv, nrem, exI, exJ, exV, eq_self, true_and, and_true, true_or, or_true, if_true, if_false, not_true, not_false_eq_true, false_and, and_false, decide_true, decide_false, bi_T, bi_F, bi_0, bi_1, bi_z, bft, n10, n01, Nat.reduceEqDiff, Nat.reduceLT, Nat.reduceAdd, Nat.reduceMul, reduceCtorEq, hi, b_Mo_play_247 hg, f1.2.1 101 (by decide), x0]
    obtain ⟨n, en⟩ : ∃ n, n = w.2.1 + 1 - w.1 := ⟨_, rfl⟩
    rw [← en] at ih
    refine dn (P := fun k => ∀ I', CR (mvs S1 w k) T I I' → a_wp aTab aMX (d + 1) m_Mo_play 257 [.ref 89, .int (nI i), .int (nI (w.1 + k))] [] (g, I', J) Q) (n := n) ?_ ?_ 0 (by omega) I' f1
    · intro I2 g1
      rw [b_Mo_play_257 hg]
      have q : w.2.1 < w.1 + n := by omega
      simp (disch := omega) only [↓reduceIte, nadd, nmul, nsub, nlt, neq, ncl, nvi, ndiv, nrem, exI, exJ, exV, eq_self, true_and, and_true, true_or, or_true, if_true, if_false, not_true, not_false_eq_true, false_and, and_false, decide_true, decide_false, bi_T, bi_F, bi_0, bi_1, bi_z, bft, n10, n01, Nat.reduceEqDiff, Nat.reduceLT, Nat.reduceAdd, Nat.reduceMul, reduceCtorEq, g1.2.1 101 (by decide), x1, q, b_Mo_play_339]
      exact ih _ I2 g1
    · intro k hk ih2 I2 g1
      rw [b_Mo_play_257 hg]
      have q : ¬ w.2.1 < w.1 + k := by omega
      simp (disch := omega) only [↓reduceIte, nadd, nmul, nsub, nlt, neq, ncl, nvi, ndiv, nrem, exI, exJ, exV, eq_self, true_and, and_true, true_or, or_true, if_true, if_false, not_true, not_false_eq_true, false_and, and_false, decide_true, decide_false, bi_T, bi_F, bi_0, bi_1, bi_z, bft, n10, n01, Nat.reduceEqDiff, Nat.reduceLT, Nat.reduceAdd, Nat.reduceMul, reduceCtorEq, g1.2.1 101 (by decide), x1, x2, x3, x4, x5, x6, q, b_Mo_play_272 hg, b_Mo_play_333, c_mPut hg]
      have ep : 12 * w.2.2.1 + (w.1 + k) = w.2.2.1 * 12 + (w.1 + k) := by omega
      rw [ep]
      have hp : w.2.2.1 * 12 + (w.1 + k) < 72 := by omega
      refine ih2 _ ⟨?_, fun a ha => ?_, fun i hi => ?_⟩
      · show MS (mv1 (mvs S1 w k) w (w.1 + k)) T _
        unfold mv1
        generalize w.2.2.1 * 12 + (w.1 + k) = p at hp
        refine MS_p g1.1 hp (fun i hi => ?_) ?_ (fun z => ⟨?_, ?_⟩) ?_
        · simp (disch := omega) only [u2_n]
        · simp (disch := omega) only [u2_n, u2_s]
        · simp (disch := omega) only [u2_n, u2_s]
        · simp (disch := omega) only [u2_n, u2_s]
        · simp (disch := omega) only [u2_n, u2_s]
      · rw [u2_r (by omega), u2_r (by omega), u2_r (by omega), u2_r (by omega)]
        exact g1.2.1 a ha
      · simp (disch := omega) only [u2_n]
        exact g1.2.2 i hi
/-- the reference's row of a new text -/
def nW (I : Nat → Nat → Int32) (k l : Nat) (R : List (Nat × Nat)) (W W' : Nat → Int32) : Prop := W' 1 = nI k ∧ W' 371 = nI l ∧ (∀ i, i < 8 * l → W' (372 + i) = I 95 i) ∧ (∀ i, i < R.length → W' (564 + 2 * i) = I 96 i ∧ W' (564 + 2 * i + 1) = I 97 i) ∧ (∀ i, 64 ≤ i → i < 352 → W' i = nI 0) ∧ ∀ i, i < 371 → i ≠ 1 → ¬ (64 ≤ i ∧ i < 352) → W' i = W i
theorem w_mLaws (hg : Geo g) {k l : Nat} {R : List (Nat × Nat)} (h28 : I 89 28 = nI k) (h15 : I 89 15 = nI l) (h17 : I 89 17 = nI R.length) (hl : l ≤ 24) (hR : R.length ≤ 400) (hQ : ∀ v2 I', (∀ a, a ≠ 91 → I' a = I a) → nW I k l R (I 91) (I' 91) → a_wp aTab aMX (d + 1) m_Mo_play 239 [.ref 89, .int (nI 0), v2] [] (g, I', J) Q) : a_wp aTab aMX (d + 1) m_Mo_play 103 [.ref 89, aU, aU] [] (g, I, J) Q := by
  have e : u2 I 91 1 (nI k) 89 15 = nI l := by rw [u2_a (by decide)]; exact h15
  rw [b_Mo_play_103 hg, ncl (by decide), ncl (by decide), h28, e]
  obtain ⟨H, eH⟩ : ∃ H, H = u2 (u2 I 91 1 (nI k)) 91 371 (nI l) := ⟨_, rfl⟩
  rw [← eH]
  have o1 : ∀ a, a ≠ 91 → H a = I a := fun a ha => by rw [eH, u2_r ha, u2_r ha]
  -- the laws
  have s1 : ∀ Q : aQ, (∀ v1, a_wp aTab aMX (d + 1) m_Mo_play 160 [.ref 89, v1, aU] [] (g, wr H 91 372 (I 95) (8 * l), J) Q) → a_wp aTab aMX (d + 1) m_Mo_play 127 [.ref 89, .int (nI 0), aU] [] (g, wr H 91 372 (I 95) 0, J) Q := fun Q hq => by
    refine dn (P := fun i => a_wp aTab aMX (d + 1) m_Mo_play 127 [.ref 89, .int (nI i), aU] [] (g, wr H 91 372 (I 95) i, J) Q) (n := 8 * l) ?_ ?_ 0 (by omega)
    · have e15 : wr H 91 372 (I 95) (8 * l) 89 15 = nI l := by rw [wr_r (by decide), o1 89 (by decide)]; exact h15
      rw [b_Mo_play_127 hg, e15]
      simp (disch := omega) only [↓reduceIte, nadd, nmul, nsub, nlt, neq, ncl, nvi, ndiv, nrem, exI, exJ, exV, eq_self, true_and, and_true, true_or, or_true, if_true, if_false, not_true, not_false_eq_true, false_and, and_false, decide_true, decide_false, bi_T, bi_F, bi_0, bi_1, bi_z, bft, n10, n01, Nat.reduceEqDiff, Nat.reduceLT, Nat.reduceAdd, Nat.reduceMul, reduceCtorEq, Nat.lt_irrefl]
      exact hq _
    · intro i hi ih
      have e15 : wr H 91 372 (I 95) i 89 15 = nI l := by rw [wr_r (by decide), o1 89 (by decide)]; exact h15
      have e95 : wr H 91 372 (I 95) i 95 i = I 95 i := by rw [wr_r (by decide), o1 95 (by decide)]
      rw [← wr_s] at ih
      rw [b_Mo_play_127 hg, e15]
      simp (disch := omega) only [↓reduceIte, nadd, nmul, nsub, nlt, neq, ncl, nvi, ndiv, nrem, exI, exJ, exV, eq_self, true_and, and_true, true_or, or_true, if_true, if_false, not_true, not_false_eq_true, false_and, and_false, decide_true, decide_false, bi_T, bi_F, bi_0, bi_1, bi_z, bft, n10, n01, Nat.reduceEqDiff, Nat.reduceLT, Nat.reduceAdd, Nat.reduceMul, reduceCtorEq, hi, b_Mo_play_138 hg, e95]
      exact ih
  rw [wr_0] at s1
  refine s1 _ (fun v1 => ?_)
  rw [b_Mo_play_160]
  -- the steps
  obtain ⟨H2, eH2⟩ : ∃ H2, H2 = wr H 91 372 (I 95) (8 * l) := ⟨_, rfl⟩
  rw [← eH2]
  have o2 : ∀ a, a ≠ 91 → H2 a = I a := fun a ha => by rw [eH2, wr_r ha]; exact o1 a ha
  refine dn (P := fun i => ∀ H3, (∀ a, a ≠ 91 → H3 a = I a) → (∀ j, j < i → H3 91 (564 + 2 * j) = I 96 j ∧ H3 91 (564 + 2 * j + 1) = I 97 j) → (∀ j, j < 564 → H3 91 j = H2 91 j) → a_wp aTab aMX (d + 1) m_Mo_play 162 [.ref 89, .int (nI i), aU] [] (g, H3, J) Q) (n := R.length) ?_ ?_ 0 (by omega) H2 o2 (fun j hj => absurd hj (by omega)) (fun _ _ => rfl)
  · intro H3 o3 t1 t2
    have e17 : H3 89 17 = nI R.length := by rw [o3 89 (by decide)]; exact h17
    rw [b_Mo_play_162 hg, e17]
    simp (disch := omega) only [↓reduceIte, nadd, nmul, nsub, nlt, neq, ncl, nvi, ndiv, nrem, exI, exJ, exV, eq_self, true_and, and_true, true_or, or_true, if_true, if_false, not_true, not_false_eq_true, false_and, and_false, decide_true, decide_false, bi_T, bi_F, bi_0, bi_1, bi_z, bft, n10, n01, Nat.reduceEqDiff, Nat.reduceLT, Nat.reduceAdd, Nat.reduceMul, reduceCtorEq, Nat.lt_irrefl, b_Mo_play_214]
    -- no one is on
    have s2 : ∀ Q : aQ, (∀ v1, a_wp aTab aMX (d + 1) m_Mo_play 237 [.ref 89, v1, aU] [] (g, wr H3 91 64 (fun _ => nI 0) 288, J) Q) → a_wp aTab aMX (d + 1) m_Mo_play 217 [.ref 89, .int (nI (64 + 0)), aU] [] (g, wr H3 91 64 (fun _ => nI 0) 0, J) Q := fun Q hq => by
      refine dn (P := fun i => a_wp aTab aMX (d + 1) m_Mo_play 217 [.ref 89, .int (nI (64 + i)), aU] [] (g, wr H3 91 64 (fun _ => nI 0) i, J) Q) (n := 288) ?_ ?_ 0 (by omega)
      · rw [b_Mo_play_217]
        simp (disch := omega) only [↓reduceIte, nadd, nmul, nsub, nlt, neq, ncl, nvi, ndiv, nrem, exI, exJ, exV, eq_self, true_and, and_true, true_or, or_true, if_true, if_false, not_true, not_false_eq_true, false_and, and_false, decide_true, decide_false, bi_T, bi_F, bi_0, bi_1, bi_z, bft, n10, n01, Nat.reduceEqDiff, Nat.reduceLT, Nat.reduceAdd, Nat.reduceMul, reduceCtorEq, Nat.reduceAdd, Nat.lt_irrefl]
        exact hq _
      · intro i hi ih
        rw [← wr_s] at ih
        have q : 64 + i < 352 := by omega
        rw [b_Mo_play_217]
        simp (disch := omega) only [↓reduceIte, nadd, nmul, nsub, nlt, neq, ncl, nvi, ndiv, nrem, exI, exJ, exV, eq_self, true_and, and_true, true_or, or_true, if_true, if_false, not_true, not_false_eq_true, false_and, and_false, decide_true, decide_false, bi_T, bi_F, bi_0, bi_1, bi_z, bft, n10, n01, Nat.reduceEqDiff, Nat.reduceLT, Nat.reduceAdd, Nat.reduceMul, reduceCtorEq, q, b_Mo_play_224 hg]
        exact ih
    rw [wr_0] at s2
    refine s2 _ (fun v1 => ?_)
    rw [b_Mo_play_237]
    refine hQ _ _ (fun a ha => by rw [wr_r ha]; exact o3 a ha) ⟨?_, ?_, fun i hi => ?_, fun i hi => ?_, fun i y1 y2 => ?_, fun i y1 y2 y3 => ?_⟩
    · rw [wr_n (by omega), t2 1 (by omega), eH2, wr_n (by omega), eH, u2_k (by decide), u2_s]
    · rw [wr_n (by omega), t2 371 (by omega), eH2, wr_n (by omega), eH, u2_s]
    · rw [wr_n (by omega), t2 _ (by omega), eH2, wr_i hi]
    · rw [wr_n (by omega), wr_n (by omega)]; exact t1 i hi
    · have := wr_i (I := H3) (r := 91) (o := 64) (F := fun _ => nI 0) (k := 288) (j := i - 64) (by omega)
      rw [show 64 + (i - 64) = i by omega] at this
      exact this
    · rw [wr_n (by omega), t2 _ (by omega), eH2, wr_n (by omega), eH, u2_k (by omega), u2_k (by omega)]
  · intro i hi ih H3 o3 t1 t2
    have e17 : H3 89 17 = nI R.length := by rw [o3 89 (by decide)]; exact h17
    have e96 : H3 96 = I 96 := o3 96 (by decide)
    have e97 : ∀ k v, u2 H3 91 k v 97 = I 97 := fun k v => by rw [u2_r (by decide)]; exact o3 97 (by decide)
    rw [b_Mo_play_162 hg, e17]
    simp (disch := omega) only [↓reduceIte, nadd, nmul, nsub, nlt, neq, ncl, nvi, ndiv, nrem, exI, exJ, exV, eq_self, true_and, and_true, true_or, or_true, if_true, if_false, not_true, not_false_eq_true, false_and, and_false, decide_true, decide_false, bi_T, bi_F, bi_0, bi_1, bi_z, bft, n10, n01, Nat.reduceEqDiff, Nat.reduceLT, Nat.reduceAdd, Nat.reduceMul, reduceCtorEq, hi, b_Mo_play_170 hg, e96, e97]
    refine ih _ (fun a ha => by rw [u2_r ha, u2_r ha]; exact o3 a ha) (fun j hj => ?_) (fun j hj => ?_)
    · by_cases q : j = i
      · rw [q, u2_k (by omega), u2_s, u2_s]
        exact ⟨rfl, rfl⟩
      · rw [u2_k (by omega), u2_k (by omega), u2_k (by omega), u2_k (by omega)]
        exact t1 j (by omega)
    · rw [u2_k (by omega), u2_k (by omega)]; exact t2 j hj
end PLY
