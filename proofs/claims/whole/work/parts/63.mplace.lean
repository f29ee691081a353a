/-! ===== the reference's places ===== -/
theorem bL_nN {n k : Nat} (hk : k < 64) : bL (lN n) k = n.testBit k := by
  show (BitVec.ofNat 64 n).getLsbD k = n.testBit k
  rw [BitVec.getLsbD_ofNat]
  simp only [hk, decide_true, Bool.true_and]
theorem tb64 {n i : Nat} (hn : n < 2 ^ 64) (hi : 64 ≤ i) : n.testBit i = false := Nat.testBit_lt_two_pow (Nat.lt_of_lt_of_le hn (Nat.pow_le_pow_right (n := 2) (by decide) hi))
theorem lN64 {a b : Nat} (ha : a < 2 ^ 64) (hb : b < 2 ^ 64) : (lN a = lN b) = (a = b) := by
  apply propext
  constructor
  · intro h
    apply Nat.eq_of_testBit_eq
    intro i
    by_cases q : i < 64
    · rw [← bL_nN q, ← bL_nN q, h]
    · rw [tb64 ha (by omega), tb64 hb (by omega)]
  · exact fun h => by rw [h]
def LM (L : List (Nat × Nat)) (i : Nat) : Nat := (L.getD i (0, 0)).1
def LQ (L : List (Nat × Nat)) (i : Nat) : Nat := (L.getD i (0, 0)).2
theorem gd_app (L : List (Nat × Nat)) (e : Nat × Nat) : (∀ i, i < L.length → (L ++ [e]).getD i (0, 0) = L.getD i (0, 0)) ∧ (L ++ [e]).getD L.length (0, 0) = e := by
  constructor
  · intro i hi
    rw [List.getD_eq_getElem?_getD, List.getD_eq_getElem?_getD, List.getElem?_append_left hi]
  · rw [List.getD_eq_getElem?_getD, List.getElem?_append_right (Nat.le_refl _), Nat.sub_self]
    rfl
theorem LM_l {L : List (Nat × Nat)} {e : Nat × Nat} {i : Nat} (h : i < L.length) : LM (L ++ [e]) i = LM L i := by unfold LM; rw [(gd_app L e).1 i h]
theorem LM_e {L : List (Nat × Nat)} {e : Nat × Nat} : LM (L ++ [e]) L.length = e.1 := by unfold LM; rw [(gd_app L e).2]
theorem LQ_l {L : List (Nat × Nat)} {e : Nat × Nat} {i : Nat} (h : i < L.length) : LQ (L ++ [e]) i = LQ L i := by unfold LQ; rw [(gd_app L e).1 i h]
theorem LQ_e {L : List (Nat × Nat)} {e : Nat × Nat} : LQ (L ++ [e]) L.length = e.2 := by unfold LQ; rw [(gd_app L e).2]
def newM (L : List (Nat × Nat)) (m : Nat) : Prop := ∀ i, i < L.length → LM L i ≠ m
noncomputable def plA (S : Nat → Nat → Nat) (T : Nat → Int32) (f dp x y : Nat) (L : List (Nat × Nat)) : List (Nat × Nat) := @ite _ (plOk S T f dp x y ∧ newM L (mkS S T f dp x y)) (Classical.propDecidable _) (L ++ [(mkS S T f dp x y, (32 * dp + x) * 16 + y)]) L
theorem plA_y {S : Nat → Nat → Nat} {T : Nat → Int32} {f dp x y : Nat} {L : List (Nat × Nat)} (h1 : plOk S T f dp x y) (h2 : newM L (mkS S T f dp x y)) : plA S T f dp x y L = L ++ [(mkS S T f dp x y, (32 * dp + x) * 16 + y)] := @if_pos _ (Classical.propDecidable _) ⟨h1, h2⟩ _ _ _
theorem plA_n {S : Nat → Nat → Nat} {T : Nat → Int32} {f dp x y : Nat} {L : List (Nat × Nat)} (h : ¬ (plOk S T f dp x y ∧ newM L (mkS S T f dp x y))) : plA S T f dp x y L = L := @if_neg _ (Classical.propDecidable _) h _ _ _
theorem plA_len {S : Nat → Nat → Nat} {T : Nat → Int32} {f dp x y : Nat} {L : List (Nat × Nat)} : (plA S T f dp x y L).length ≤ L.length + 1 := by
  unfold plA
  split
  · rw [List.length_append]; exact Nat.le_refl _
  · omega
noncomputable def plL (S : Nat → Nat → Nat) (T : Nat → Int32) (f : Nat) : Nat → List (Nat × Nat)
  | 0 => []
  | n + 1 => plA S T f (n / 512 + 1) (n / 16 % 32) (n % 16) (plL S T f n)
theorem plL_len (S : Nat → Nat → Nat) (T : Nat → Int32) (f : Nat) : ∀ n, (plL S T f n).length ≤ n
  | 0 => Nat.le_refl _
  | n + 1 => by
    have h1 := plL_len S T f n
    have h2 := plA_len (S := S) (T := T) (f := f) (dp := n / 512 + 1) (x := n / 16 % 32) (y := n % 16) (L := plL S T f n)
    show (plA S T f (n / 512 + 1) (n / 16 % 32) (n % 16) (plL S T f n)).length ≤ n + 1
    omega
theorem mkS_lt {S : Nat → Nat → Nat} {T : Nat → Int32} {f dp x y : Nat} (h : tCells T ≤ 64) : mkS S T f dp x y < 2 ^ 64 := Nat.lt_of_lt_of_le (bl_lt _ _) (Nat.pow_le_pow_right (n := 2) (by decide) h)
def mOk (L : List (Nat × Nat)) : Prop := ∀ i, i < L.length → LM L i < 2 ^ 64
theorem plA_ok {S : Nat → Nat → Nat} {T : Nat → Int32} {f dp x y : Nat} {L : List (Nat × Nat)} (h : tCells T ≤ 64) (hL : mOk L) : mOk (plA S T f dp x y L) := by
  unfold plA
  split
  · intro i hi
    rw [List.length_append] at hi
    have hi : i < L.length + 1 := hi
    by_cases q : i < L.length
    · rw [LM_l q]; exact hL i q
    · rw [show i = L.length by omega, LM_e]; exact mkS_lt h
  · exact hL
theorem plL_ok {S : Nat → Nat → Nat} {T : Nat → Int32} {f : Nat} (h : tCells T ≤ 64) : ∀ n, mOk (plL S T f n)
  | 0 => fun i hi => absurd hi (Nat.not_lt_zero _)
  | n + 1 => plA_ok h (plL_ok h n)
def RLs (f : Nat) (L : List (Nat × Nat)) (I : Nat → Nat → Int32) (J : Nat → Nat → Int64) : Prop := I 117 f = nI L.length ∧ ∀ i, i < L.length → J 115 (4096 * f + i) = lN (LM L i) ∧ I 116 (4096 * f + i) = nI (LQ L i)
def RF (f : Nat) (I I' : Nat → Nat → Int32) (J J' : Nat → Nat → Int64) : Prop := (∀ a, a ≠ 116 → a ≠ 117 → a ≠ 118 → a ≠ 119 → I' a = I a) ∧ (∀ k, k ≠ f → I' 117 k = I 117 k) ∧ (∀ k, ¬ (4096 * f ≤ k ∧ k < 4096 * f + 4096) → I' 116 k = I 116 k ∧ J' 115 k = J 115 k) ∧ (∀ a, a ≠ 115 → J' a = J a)
theorem RF_r (f : Nat) (I : Nat → Nat → Int32) (J : Nat → Nat → Int64) : RF f I I J J := ⟨fun _ _ _ _ _ => rfl, fun _ _ => rfl, fun _ _ => ⟨rfl, rfl⟩, fun _ _ => rfl⟩
theorem RF_t {f : Nat} {I I' I2 : Nat → Nat → Int32} {J J' J2 : Nat → Nat → Int64} (h1 : RF f I I' J J') (h2 : RF f I' I2 J' J2) : RF f I I2 J J2 := ⟨fun a x1 x2 x3 x4 => (h2.1 a x1 x2 x3 x4).trans (h1.1 a x1 x2 x3 x4), fun k hk => (h2.2.1 k hk).trans (h1.2.1 k hk), fun k hk => ⟨(h2.2.2.1 k hk).1.trans (h1.2.2.1 k hk).1, (h2.2.2.1 k hk).2.trans (h1.2.2.1 k hk).2⟩, fun a ha => (h2.2.2.2 a ha).trans (h1.2.2.2 a ha)⟩
theorem bl_0 {p : Nat → Bool} (h : ∀ i, p i = false) : ∀ k, bl p k = 0
  | 0 => rfl
  | k + 1 => by unfold bl; rw [h k, if_neg (by decide), bl_0 h k]
section MPL
variable {d : Nat} {g : aG} {I : Nat → Nat → Int32} {J : Nat → Nat → Int64} {Q : aQ} {S : Nat → Nat → Nat} {T : Nat → Int32}
theorem c_tryPlace (hg : Geo g) (hB : SB S) (hM : MS S T (I 91)) (hc64 : tCells T ≤ 64) (h49 : I 89 49 = nI (tCells T)) (hCL : CL T 512 (I 114) (I 113)) {f dp x y : Nat} {L : List (Nat × Nat)} (hf : f < 6) (h1 : 1 ≤ dp) (h8 : dp ≤ min 8 (S 10 0)) (hx : x < 32) (hy : y < 16) (h118 : ∀ c, c < 32 → I 118 c = nI (prj c dp (S 10 0))) (hL : L.length < 4096) (hm : mOk L) (hR : RLs f L I J) (hQ : ∀ I' J', RF f I I' J J' → I' 118 = I 118 → RLs f (plA S T f dp x y L) I' J' → Q none (g, I', J')) : a_call aTab aMX (d + 3) m_Mo_tryPlace [.ref 89, .int (nI f), .int (nI dp), .int (nI x), .int (nI y)] (g, I, J) Q := by
  have ht := sb10 hB
  have hl : dp ≤ S 10 0 := by omega
  have hz : ¬ 2 * S 10 0 = 0 := by omega
  have fr : ∀ I2 : Nat → Nat → Int32, (∀ a, a ≠ 119 → I2 a = I a) → RF f I I2 J J := fun I2 h => ⟨fun a _ _ _ h4 => h a h4, fun k _ => by rw [h 117 (by decide)], fun k _ => ⟨by rw [h 116 (by decide)], rfl⟩, fun _ _ => rfl⟩
  have rl : ∀ I2 : Nat → Nat → Int32, (∀ a, a ≠ 119 → I2 a = I a) → RLs f L I2 J := fun I2 h => ⟨by rw [h 117 (by decide)]; exact hR.1, fun i hi => by rw [h 116 (by decide)]; exact hR.2 i hi⟩
  have no : ∀ I2 : Nat → Nat → Int32, (∀ a, a ≠ 119 → I2 a = I a) → ¬ (plOk S T f dp x y ∧ newM L (mkS S T f dp x y)) → Q none (g, I2, J) := by
    intro I2 h hn
    refine hQ I2 J (fr I2 h) (h 118 (by decide)) ?_
    rw [plA_n hn]
    exact rl I2 h
  -- the list's search
  have search : ∀ I2 : Nat → Nat → Int32, (∀ a, a ≠ 119 → I2 a = I a) → plOk S T f dp x y → ∀ i, i ≤ L.length → (∀ j, j < i → LM L j ≠ mkS S T f dp x y) → ∀ v5 v7 v9 v10, a_wp aTab aMX (d + 2) m_Mo_tryPlace 265 [.ref 89, .int (nI f), .int (nI dp), .int (nI x), .int (nI y), v5, .long (lN (mkS S T f dp x y)), v7, .int (nI i), v9, v10] [] (g, I2, J) Q := by
    intro I2 hI hok
    have R := rl I2 hI
    refine dn ?_ ?_
    · intro hn v5 v7 v9 v10
      simp (disch := omega) only [b_Mo_tryPlace_265 hg, ↓reduceIte, nadd, nmul, nsub, nlt, neq, ncl, nvi, ndiv, nrem, exI, exJ, exV, eq_self, true_and, and_true, true_or, or_true, if_true, if_false, not_true, not_false_eq_true, false_and, and_false, decide_true, decide_false, bi_T, bi_F, bi_0, bi_1, bi_z, bft, n10, n01, Nat.reduceEqDiff, Nat.reduceLT, Nat.reduceAdd, Nat.reduceMul, reduceCtorEq, hf, R.1, Nat.lt_irrefl]
      rw [b_Mo_tryPlace_302 hg]
      have q1 : 4096 * f + L.length < 24576 := by omega
      have x1 : ∀ v, u2 I2 116 (4096 * f + L.length) v 117 f = nI L.length := fun v => by rw [u2_a (by decide)]; exact R.1
      simp (disch := omega) only [↓reduceIte, nadd, nmul, nsub, nlt, neq, ncl, nvi, ndiv, nrem, exI, exJ, exV, eq_self, true_and, and_true, true_or, or_true, if_true, if_false, not_true, not_false_eq_true, false_and, and_false, decide_true, decide_false, bi_T, bi_F, bi_0, bi_1, bi_z, bft, n10, n01, Nat.reduceEqDiff, Nat.reduceLT, Nat.reduceAdd, Nat.reduceMul, reduceCtorEq, hf, R.1, q1, x1]
      refine hQ _ _ ⟨?_, ?_, ?_, ?_⟩ ?_ ?_
      · intro a z1 z2 z3 z4
        rw [u2_r z2, u2_r z1]; exact hI a z4
      · intro k hk
        rw [u2_k hk, u2_a (by decide), hI 117 (by decide)]
      · intro k hk
        rw [u2_a (by decide), u2_k (by omega), u2_k (by omega), hI 116 (by decide)]
        exact ⟨rfl, rfl⟩
      · intro a ha
        exact u2_r ha
      · rw [u2_r (by decide), u2_r (by decide)]; exact hI 118 (by decide)
      · rw [plA_y hok hn]
        refine ⟨by rw [u2_s, List.length_append]; rfl, ?_⟩
        intro i hi
        rw [List.length_append] at hi
        have hi : i < L.length + 1 := hi
        by_cases q : i < L.length
        · have hk : 4096 * f + i ≠ 4096 * f + L.length := by omega
          refine ⟨?_, ?_⟩
          · rw [u2_k hk, LM_l q]; exact (R.2 i q).1
          · rw [u2_a (by decide), u2_k hk, LQ_l q]; exact (R.2 i q).2
        · rw [show i = L.length by omega]
          refine ⟨?_, ?_⟩
          · rw [u2_s, LM_e]
          · rw [u2_a (by decide), u2_s, LQ_e]
    · intro i hi ih hn v5 v7 v9 v10
      have q1 : 4096 * f + i < 24576 := by omega
      rw [b_Mo_tryPlace_265 hg]
      simp (disch := omega) only [b_Mo_tryPlace_276 hg, ↓reduceIte, nadd, nmul, nsub, nlt, neq, ncl, nvi, ndiv, nrem, exI, exJ, exV, eq_self, true_and, and_true, true_or, or_true, if_true, if_false, not_true, not_false_eq_true, false_and, and_false, decide_true, decide_false, bi_T, bi_F, bi_0, bi_1, bi_z, bft, n10, n01, Nat.reduceEqDiff, Nat.reduceLT, Nat.reduceAdd, Nat.reduceMul, reduceCtorEq, hf, R.1, hi, q1, (R.2 i hi).1, lN64 (hm i hi) (mkS_lt hc64)]
      by_cases q : LM L i = mkS S T f dp x y
      · rw [if_pos q, b_Mo_tryPlace_295]
        exact no I2 hI (fun z => z.2 i hi q)
      · rw [if_neg q, b_Mo_tryPlace_296, nadd]
        refine ih (fun j hj => ?_) _ _ _ _
        by_cases z : j = i
        · rw [z]; exact q
        · exact hn j (by omega)
  -- the mask
  have mask : ∀ I2 : Nat → Nat → Int32, (∀ a, a ≠ 119 → I2 a = I a) → plOk S T f dp x y → (∀ r, r < 16 → I2 119 r = nI (bl (sl S f dp x y r) 32)) → ∀ k, k ≤ tCells T → ∀ v5 v7 v9 v10, a_wp aTab aMX (d + 2) m_Mo_tryPlace 209 [.ref 89, .int (nI f), .int (nI dp), .int (nI x), .int (nI y), v5, .long (lN (bl (mkb S T f dp x y) k)), v7, .int (nI k), v9, v10] [] (g, I2, J) Q := by
    intro I2 hI hok h119
    have e49 : I2 89 49 = nI (tCells T) := by rw [hI 89 (by decide)]; exact h49
    refine dn ?_ ?_
    · intro v5 v7 v9 v10
      simp (disch := omega) only [b_Mo_tryPlace_209 hg, b_Mo_tryPlace_262, ↓reduceIte, nadd, nmul, nsub, nlt, neq, ncl, nvi, ndiv, nrem, exI, exJ, exV, eq_self, true_and, and_true, true_or, or_true, if_true, if_false, not_true, not_false_eq_true, false_and, and_false, decide_true, decide_false, bi_T, bi_F, bi_0, bi_1, bi_z, bft, n10, n01, Nat.reduceEqDiff, Nat.reduceLT, Nat.reduceAdd, Nat.reduceMul, reduceCtorEq, e49, Nat.lt_irrefl]
      exact search I2 hI hok 0 (by omega) (fun j hj => absurd hj (by omega)) _ _ _ _
    · intro k hk ih v5 v7 v9 v10
      obtain ⟨r, c, hr, hc, htl, hn⟩ := nC_kth hk
      have em := mkb_at (S := S) (f := f) (dp := dp) (x := x) (y := y) hr hc htl
      rw [hn] at em
      obtain ⟨e51, e52⟩ := hCL (32 * r + c) (by omega) htl
      rw [hn, show (32 * r + c) % 32 = c by omega] at e51
      rw [hn, show (32 * r + c) / 32 = r by omega] at e52
      have e114 : I2 114 k = nI c := by rw [hI 114 (by decide)]; exact e51
      have e113 : I2 113 k = nI r := by rw [hI 113 (by decide)]; exact e52
      unfold bl at ih
      rw [em] at ih
      rw [b_Mo_tryPlace_209 hg]
      simp (disch := omega) only [b_Mo_tryPlace_218 hg, ↓reduceIte, nadd, nmul, nsub, nlt, neq, ncl, nvi, ndiv, nrem, exI, exJ, exV, eq_self, true_and, and_true, true_or, or_true, if_true, if_false, not_true, not_false_eq_true, false_and, and_false, decide_true, decide_false, bi_T, bi_F, bi_0, bi_1, bi_z, bft, n10, n01, Nat.reduceEqDiff, Nat.reduceLT, Nat.reduceAdd, Nat.reduceMul, reduceCtorEq, e49, hk, e113, e114, hr, h119, c_is, bt_nI, bl_bit, hc, Bool.true_and]
      cases q : sl S f dp x y r c
      · rw [q] at ih
        simp only [exI, exJ, exV, eq_self, true_and, and_true, true_or, or_true, if_true, if_false, not_true, not_false_eq_true, false_and, and_false, decide_true, decide_false, bi_T, bi_F, bi_0, bi_1, bi_z, bft, n10, n01, Nat.reduceEqDiff, Nat.reduceLT, Nat.reduceAdd, Nat.reduceMul, reduceCtorEq] at ih
        simp (disch := omega) only [b_Mo_tryPlace_242, b_Mo_tryPlace_252, b_Mo_tryPlace_253, ↓reduceIte, nadd, nmul, nsub, nlt, neq, ncl, nvi, ndiv, nrem, exI, exJ, exV, eq_self, true_and, and_true, true_or, or_true, if_true, if_false, not_true, not_false_eq_true, false_and, and_false, decide_true, decide_false, bi_T, bi_F, bi_0, bi_1, bi_z, bft, n10, n01, Nat.reduceEqDiff, Nat.reduceLT, Nat.reduceAdd, Nat.reduceMul, reduceCtorEq, fb_orL, Nat.or_zero]
        exact ih _ _ _ _
      · rw [q] at ih
        simp only [exI, exJ, exV, eq_self, true_and, and_true, true_or, or_true, if_true, if_false, not_true, not_false_eq_true, false_and, and_false, decide_true, decide_false, bi_T, bi_F, bi_0, bi_1, bi_z, bft, n10, n01, Nat.reduceEqDiff, Nat.reduceLT, Nat.reduceAdd, Nat.reduceMul, reduceCtorEq] at ih
        simp (disch := omega) only [b_Mo_tryPlace_242, b_Mo_tryPlace_245, b_Mo_tryPlace_253, ↓reduceIte, nadd, nmul, nsub, nlt, neq, ncl, nvi, ndiv, nrem, exI, exJ, exV, eq_self, true_and, and_true, true_or, or_true, if_true, if_false, not_true, not_false_eq_true, false_and, and_false, decide_true, decide_false, bi_T, bi_F, bi_0, bi_1, bi_z, bft, n10, n01, Nat.reduceEqDiff, Nat.reduceLT, Nat.reduceAdd, Nat.reduceMul, reduceCtorEq, lshl1, fb_orL]
        exact ih _ _ _ _
  rw [e_Mo_tryPlace, b_Mo_tryPlace_0]
  -- the rows
  refine dn (P := fun r => ∀ I2 : Nat → Nat → Int32, (∀ a, a ≠ 119 → I2 a = I a) → (∀ r', r' < r → I2 119 r' = nI (bl (sl S f dp x y r') 32)) → (∀ r', r' < r → ∀ c, c < 32 → sl S f dp x y r' c = true → tld T (32 * r' + c) = true) → ∀ any : Int32, (∀ z, z < 32 → (bt any z = true ↔ ∃ r', r' < r ∧ sl S f dp x y r' z = true)) → ∀ v7 v8 v9 v10, a_wp aTab aMX (d + 2) m_Mo_tryPlace 6 [.ref 89, .int (nI f), .int (nI dp), .int (nI x), .int (nI y), .int any, .int (nI r), v7, v8, v9, v10] [] (g, I2, J) Q) (n := 16) ?_ ?_ 0 (by omega) I (fun _ _ => rfl) (fun r' h => absurd h (by omega)) (fun r' h => absurd h (by omega)) (nI 0) ?_ _ _ _ _
  · intro I2 hI k1 k2 any k3 v7 v8 v9 v10
    rw [b_Mo_tryPlace_6]
    simp (disch := omega) only [b_Mo_tryPlace_197, ↓reduceIte, nadd, nmul, nsub, nlt, neq, ncl, nvi, ndiv, nrem, exI, exJ, exV, eq_self, true_and, and_true, true_or, or_true, if_true, if_false, not_true, not_false_eq_true, false_and, and_false, decide_true, decide_false, bi_T, bi_F, bi_0, bi_1, bi_z, bft, n10, n01, Nat.reduceEqDiff, Nat.reduceLT, Nat.reduceAdd, Nat.reduceMul, reduceCtorEq, Nat.lt_irrefl]
    by_cases q : any = nI 0
    · rw [if_pos q, b_Mo_tryPlace_202]
      refine no I2 hI ?_
      rintro ⟨⟨_, r, c, hr, hc, hs⟩, _⟩
      have := (k3 c hc).2 ⟨r, hr, hs⟩
      rw [ieq0.1 q c hc] at this
      cases this
    · rw [if_neg q, b_Mo_tryPlace_203]
      refine mask I2 hI ⟨fun r c hr hc hs => k2 r hr c hc hs, ?_⟩ k1 0 (by omega) _ _ _ _
      apply Classical.byContradiction
      intro hn
      apply q
      rw [ieq0]
      intro i hi
      cases q4 : bt any i
      · rfl
      · obtain ⟨r, hr, hs⟩ := (k3 i hi).1 q4
        exact absurd ⟨r, i, hr, hi, hs⟩ hn
  · intro r hr ih I2 hI k1 k2 any k3 v7 v8 v9 v10
    have hpr := prj_r hr hl (by omega)
    have hdd : (2 * r + 1) * dp ≤ 31 * 8 := Nat.mul_le_mul (by omega) (by omega)
    have M2 : MS S T (I2 91) := by rw [hI 91 (by decide)]; exact hM
    -- a row written
    have put : ∀ any2 : Int32, (∀ c, c < 32 → sl S f dp x y r c = true → tld T (32 * r + c) = true) → (∀ z, z < 32 → (bt any2 z = true ↔ (bt any z = true ∨ sl S f dp x y r z = true))) → ∀ v7 v8 v9 v10, a_wp aTab aMX (d + 2) m_Mo_tryPlace 191 [.ref 89, .int (nI f), .int (nI dp), .int (nI x), .int (nI y), .int any2, .int (nI r), v7, v8, v9, v10] [] (g, u2 I2 119 r (nI (bl (sl S f dp x y r) 32)), J) Q := by
      intro any2 w1 w2 v7 v8 v9 v10
      rw [b_Mo_tryPlace_191, nadd]
      refine ih _ (fun a ha => by rw [u2_r ha]; exact hI a ha) ?_ ?_ any2 ?_ _ _ _ _
      · intro r' hr'
        by_cases z : r' = r
        · rw [z, u2_s]
        · rw [u2_k z]; exact k1 r' (by omega)
      · intro r' hr'
        by_cases z : r' = r
        · rw [z]; exact w1
        · exact k2 r' (by omega)
      · intro z hz2
        rw [w2 z hz2, k3 z hz2]
        constructor
        · rintro (⟨r', z1, z2⟩ | z1)
          · exact ⟨r', by omega, z2⟩
          · exact ⟨r, by omega, z1⟩
        · rintro ⟨r', z1, z2⟩
          by_cases z3 : r' = r
          · right; rw [z3] at z2; exact z2
          · left; exact ⟨r', by omega, z2⟩
    have none : (∀ c, sl S f dp x y r c = false) → ∀ v7 v8 v9 v10, a_wp aTab aMX (d + 2) m_Mo_tryPlace 183 [.ref 89, .int (nI f), .int (nI dp), .int (nI x), .int (nI y), .int any, .int (nI r), v7, v8, v9, v10] [] (g, I2, J) Q := by
      intro hn v7 v8 v9 v10
      have e := bl_0 hn 32
      have p := put any (fun c _ h => by rw [hn c] at h; cases h) (fun z _ => by rw [hn z]; simp)
      rw [e] at p
      simp (disch := omega) only [b_Mo_tryPlace_183 hg, ↓reduceIte, nadd, nmul, nsub, nlt, neq, ncl, nvi, ndiv, nrem, exI, exJ, exV, eq_self, true_and, and_true, true_or, or_true, if_true, if_false, not_true, not_false_eq_true, false_and, and_false, decide_true, decide_false, bi_T, bi_F, bi_0, bi_1, bi_z, bft, n10, n01, Nat.reduceEqDiff, Nat.reduceLT, Nat.reduceAdd, Nat.reduceMul, reduceCtorEq, hr]
      exact p _ _ _ _
    rw [b_Mo_tryPlace_6]
    simp (disch := omega) only [b_Mo_tryPlace_13 hg, b_Mo_tryPlace_27, ↓reduceIte, nadd, nmul, nsub, nlt, neq, ncl, nvi, ndiv, nrem, exI, exJ, exV, eq_self, true_and, and_true, true_or, or_true, if_true, if_false, not_true, not_false_eq_true, false_and, and_false, decide_true, decide_false, bi_T, bi_F, bi_0, bi_1, bi_z, bft, n10, n01, Nat.reduceEqDiff, Nat.reduceLT, Nat.reduceAdd, Nat.reduceMul, reduceCtorEq, hr, c_term hg, ms2 M2, ms2r M2, hz, c_in]
    rw [show (2 * r + 1) * dp / (2 * S 10 0) = prj r dp (S 10 0) from rfl]
    by_cases q1 : prj r dp (S 10 0) < y
    · simp (disch := omega) only [subneg, b_Mo_tryPlace_44, ↓reduceIte, nadd, nmul, nsub, nlt, neq, ncl, nvi, ndiv, nrem, exI, exJ, exV, eq_self, true_and, and_true, true_or, or_true, if_true, if_false, not_true, not_false_eq_true, false_and, and_false, decide_true, decide_false, bi_T, bi_F, bi_0, bi_1, bi_z, bft, n10, n01, Nat.reduceEqDiff, Nat.reduceLT, Nat.reduceAdd, Nat.reduceMul, reduceCtorEq, wlt]
      refine none (fun c => ?_) _ _ _ _
      unfold sl
      exact decide_eq_false (fun z => by omega)
    by_cases q2 : prj r dp (S 10 0) < y + 8
    rotate_left
    · have q3 : 7 < prj r dp (S 10 0) - y := by omega
      simp (disch := omega) only [b_Mo_tryPlace_44, ↓reduceIte, nadd, nmul, nsub, nlt, neq, ncl, nvi, ndiv, nrem, exI, exJ, exV, eq_self, true_and, and_true, true_or, or_true, if_true, if_false, not_true, not_false_eq_true, false_and, and_false, decide_true, decide_false, bi_T, bi_F, bi_0, bi_1, bi_z, bft, n10, n01, Nat.reduceEqDiff, Nat.reduceLT, Nat.reduceAdd, Nat.reduceMul, reduceCtorEq, wlt, wgt, q3, Nat.not_lt_zero]
      refine none (fun c => ?_) _ _ _ _
      unfold sl
      exact decide_eq_false (fun z => by omega)
    have q3 : ¬ 7 < prj r dp (S 10 0) - y := by omega
    have q4 : y ≤ prj r dp (S 10 0) := by omega
    have e91 : I2 91 (16 + 8 * f + (prj r dp (S 10 0) - y)) = nI (S 8 (f * 8 + (prj r dp (S 10 0) - y))) := by
      rw [Nat.add_assoc, Nat.mul_comm 8 f]
      exact ms16 M2 (by omega)
    have q5 : 16 + 8 * f + (prj r dp (S 10 0) - y) < 1470 := by omega
    have h255 := sb8 hB (f * 8 + (prj r dp (S 10 0) - y))
    simp (disch := omega) only [b_Mo_tryPlace_44, b_Mo_tryPlace_47 hg, ↓reduceIte, nadd, nmul, nsub, nlt, neq, ncl, nvi, ndiv, nrem, exI, exJ, exV, eq_self, true_and, and_true, true_or, or_true, if_true, if_false, not_true, not_false_eq_true, false_and, and_false, decide_true, decide_false, bi_T, bi_F, bi_0, bi_1, bi_z, bft, n10, n01, Nat.reduceEqDiff, Nat.reduceLT, Nat.reduceAdd, Nat.reduceMul, reduceCtorEq, wlt, wgt, q3, Nat.not_lt_zero, e91, q5]
    by_cases q6 : S 8 (f * 8 + (prj r dp (S 10 0) - y)) = 0
    · rw [if_pos q6]
      refine none (fun c => ?_) _ _ _ _
      unfold sl
      refine decide_eq_false (fun z => ?_)
      have := z.2.2.2.2
      rw [q6, Nat.zero_testBit] at this
      cases this
    rw [if_neg q6, b_Mo_tryPlace_65]
    refine dn (P := fun c => ∀ v10, a_wp aTab aMX (d + 2) m_Mo_tryPlace 71 [.ref 89, .int (nI f), .int (nI dp), .int (nI x), .int (nI y), .int any, .int (nI r), .int (nI (prj r dp (S 10 0) - y)), .int (nI (bl (sl S f dp x y r) c)), .int (nI c), v10] [] (g, I2, J) Q) (n := 32) ?_ ?_ 0 (by omega) _
    · intro v10
      have e352 : I2 91 (352 + r) = T r := ms352 M2 hr
      have q7 : 352 + r < 1470 := by omega
      rw [b_Mo_tryPlace_71]
      simp (disch := omega) only [b_Mo_tryPlace_144 hg, ↓reduceIte, nadd, nmul, nsub, nlt, neq, ncl, nvi, ndiv, nrem, exI, exJ, exV, eq_self, true_and, and_true, true_or, or_true, if_true, if_false, not_true, not_false_eq_true, false_and, and_false, decide_true, decide_false, bi_T, bi_F, bi_0, bi_1, bi_z, bft, n10, n01, Nat.reduceEqDiff, Nat.reduceLT, Nat.reduceAdd, Nat.reduceMul, reduceCtorEq, Nat.lt_irrefl, e352, q7]
      have tl : ∀ c, c < 32 → tld T (32 * r + c) = bt (T r) c := fun c hc => by unfold tld; rw [show (32 * r + c) / 32 = r by omega, show (32 * r + c) % 32 = c by omega]
      have bb : ∀ c, c < 32 → bt (nI (bl (sl S f dp x y r) 32)) c = sl S f dp x y r c := fun c hc => by rw [bt_nI hc, bl_bit, decide_eq_true hc, Bool.true_and]
      by_cases q8 : nI (bl (sl S f dp x y r) 32) &&& (T r ^^^ (-1 : Int32)) = nI 0
      · rw [if_pos q8]
        simp (disch := omega) only [b_Mo_tryPlace_164 hg, ↓reduceIte, nadd, nmul, nsub, nlt, neq, ncl, nvi, ndiv, nrem, exI, exJ, exV, eq_self, true_and, and_true, true_or, or_true, if_true, if_false, not_true, not_false_eq_true, false_and, and_false, decide_true, decide_false, bi_T, bi_F, bi_0, bi_1, bi_z, bft, n10, n01, Nat.reduceEqDiff, Nat.reduceLT, Nat.reduceAdd, Nat.reduceMul, reduceCtorEq, hr]
        refine put _ ?_ ?_ _ _ _ _
        · intro c hc hs
          have := iand0.1 q8 c hc ((bb c hc).trans hs)
          rw [b_xor, b_m1 c hc] at this
          rw [tl c hc]
          cases q9 : bt (T r) c
          · rw [q9] at this; cases this
          · rfl
        · intro z hz2
          rw [b_or, Bool.or_eq_true, bb z hz2]
      · rw [if_neg q8, b_Mo_tryPlace_163]
        refine no I2 hI ?_
        rintro ⟨⟨hall, _⟩, _⟩
        apply q8
        rw [iand0]
        intro c hc hs
        have := hall r c hr hc ((bb c hc).symm.trans hs)
        rw [tl c hc] at this
        rw [b_xor, b_m1 c hc, this]
        rfl
    · intro c hc ihc v10
      have e118 : I2 118 c = nI (prj c dp (S 10 0)) := by rw [hI 118 (by decide)]; exact h118 c hc
      have hpc := prj_c hc hl (by omega)
      unfold bl at ihc
      rw [b_Mo_tryPlace_71]
      simp (disch := omega) only [b_Mo_tryPlace_78 hg, ↓reduceIte, nadd, nmul, nsub, nlt, neq, ncl, nvi, ndiv, nrem, exI, exJ, exV, eq_self, true_and, and_true, true_or, or_true, if_true, if_false, not_true, not_false_eq_true, false_and, and_false, decide_true, decide_false, bi_T, bi_F, bi_0, bi_1, bi_z, bft, n10, n01, Nat.reduceEqDiff, Nat.reduceLT, Nat.reduceAdd, Nat.reduceMul, reduceCtorEq, hc, e118, c_in]
      have es : sl S f dp x y r c = decide (x ≤ prj c dp (S 10 0) ∧ prj c dp (S 10 0) < x + 8 ∧ (S 8 (f * 8 + (prj r dp (S 10 0) - y))).testBit (prj c dp (S 10 0) - x) = true) := by
        unfold sl
        simp only [q2, q4, true_and]
      rw [es] at ihc
      by_cases w1 : prj c dp (S 10 0) < x
      · have w2 : ¬ x ≤ prj c dp (S 10 0) := by omega
        simp only [w2, exI, exJ, exV, eq_self, true_and, and_true, true_or, or_true, if_true, if_false, not_true, not_false_eq_true, false_and, and_false, decide_true, decide_false, bi_T, bi_F, bi_0, bi_1, bi_z, bft, n10, n01, Nat.reduceEqDiff, Nat.reduceLT, Nat.reduceAdd, Nat.reduceMul, reduceCtorEq] at ihc
        simp (disch := omega) only [subneg, b_Mo_tryPlace_101, b_Mo_tryPlace_134, b_Mo_tryPlace_135, ↓reduceIte, nadd, nmul, nsub, nlt, neq, ncl, nvi, ndiv, nrem, exI, exJ, exV, eq_self, true_and, and_true, true_or, or_true, if_true, if_false, not_true, not_false_eq_true, false_and, and_false, decide_true, decide_false, bi_T, bi_F, bi_0, bi_1, bi_z, bft, n10, n01, Nat.reduceEqDiff, Nat.reduceLT, Nat.reduceAdd, Nat.reduceMul, reduceCtorEq, wlt, nor, Nat.or_zero]
        exact ihc _
      by_cases w3 : prj c dp (S 10 0) < x + 8
      rotate_left
      · have w4 : 7 < prj c dp (S 10 0) - x := by omega
        simp only [w3, exI, exJ, exV, eq_self, true_and, and_true, true_or, or_true, if_true, if_false, not_true, not_false_eq_true, false_and, and_false, decide_true, decide_false, bi_T, bi_F, bi_0, bi_1, bi_z, bft, n10, n01, Nat.reduceEqDiff, Nat.reduceLT, Nat.reduceAdd, Nat.reduceMul, reduceCtorEq] at ihc
        simp (disch := omega) only [b_Mo_tryPlace_101, b_Mo_tryPlace_134, b_Mo_tryPlace_135, ↓reduceIte, nadd, nmul, nsub, nlt, neq, ncl, nvi, ndiv, nrem, exI, exJ, exV, eq_self, true_and, and_true, true_or, or_true, if_true, if_false, not_true, not_false_eq_true, false_and, and_false, decide_true, decide_false, bi_T, bi_F, bi_0, bi_1, bi_z, bft, n10, n01, Nat.reduceEqDiff, Nat.reduceLT, Nat.reduceAdd, Nat.reduceMul, reduceCtorEq, wlt, wgt, w4, Nat.not_lt_zero, nor, Nat.or_zero]
        exact ihc _
      have w2 : x ≤ prj c dp (S 10 0) := by omega
      have w4 : ¬ 7 < prj c dp (S 10 0) - x := by omega
      simp only [w2, w3, exI, exJ, exV, eq_self, true_and, and_true, true_or, or_true, if_true, if_false, not_true, not_false_eq_true, false_and, and_false, decide_true, decide_false, bi_T, bi_F, bi_0, bi_1, bi_z, bft, n10, n01, Nat.reduceEqDiff, Nat.reduceLT, Nat.reduceAdd, Nat.reduceMul, reduceCtorEq] at ihc
      simp (disch := omega) only [b_Mo_tryPlace_101, b_Mo_tryPlace_104 hg, ↓reduceIte, nadd, nmul, nsub, nlt, neq, ncl, nvi, ndiv, nrem, exI, exJ, exV, eq_self, true_and, and_true, true_or, or_true, if_true, if_false, not_true, not_false_eq_true, false_and, and_false, decide_true, decide_false, bi_T, bi_F, bi_0, bi_1, bi_z, bft, n10, n01, Nat.reduceEqDiff, Nat.reduceLT, Nat.reduceAdd, Nat.reduceMul, reduceCtorEq, wlt, wgt, w4, Nat.not_lt_zero, e91, q5, c_is, bt_nI]
      cases w5 : (S 8 (f * 8 + (prj r dp (S 10 0) - y))).testBit (prj c dp (S 10 0) - x)
      · rw [w5] at ihc
        simp only [exI, exJ, exV, eq_self, true_and, and_true, true_or, or_true, if_true, if_false, not_true, not_false_eq_true, false_and, and_false, decide_true, decide_false, bi_T, bi_F, bi_0, bi_1, bi_z, bft, n10, n01, Nat.reduceEqDiff, Nat.reduceLT, Nat.reduceAdd, Nat.reduceMul, reduceCtorEq] at ihc
        simp (disch := omega) only [b_Mo_tryPlace_124, b_Mo_tryPlace_134, b_Mo_tryPlace_135, ↓reduceIte, nadd, nmul, nsub, nlt, neq, ncl, nvi, ndiv, nrem, exI, exJ, exV, eq_self, true_and, and_true, true_or, or_true, if_true, if_false, not_true, not_false_eq_true, false_and, and_false, decide_true, decide_false, bi_T, bi_F, bi_0, bi_1, bi_z, bft, n10, n01, Nat.reduceEqDiff, Nat.reduceLT, Nat.reduceAdd, Nat.reduceMul, reduceCtorEq, nor, Nat.or_zero]
        exact ihc _
      · rw [w5] at ihc
        simp only [exI, exJ, exV, eq_self, true_and, and_true, true_or, or_true, if_true, if_false, not_true, not_false_eq_true, false_and, and_false, decide_true, decide_false, bi_T, bi_F, bi_0, bi_1, bi_z, bft, n10, n01, Nat.reduceEqDiff, Nat.reduceLT, Nat.reduceAdd, Nat.reduceMul, reduceCtorEq] at ihc
        simp (disch := omega) only [b_Mo_tryPlace_124, b_Mo_tryPlace_127, b_Mo_tryPlace_135, ↓reduceIte, nadd, nmul, nsub, nlt, neq, ncl, nvi, ndiv, nrem, exI, exJ, exV, eq_self, true_and, and_true, true_or, or_true, if_true, if_false, not_true, not_false_eq_true, false_and, and_false, decide_true, decide_false, bi_T, bi_F, bi_0, bi_1, bi_z, bft, n10, n01, Nat.reduceEqDiff, Nat.reduceLT, Nat.reduceAdd, Nat.reduceMul, reduceCtorEq, nshl, nor]
        exact ihc _
  · intro z hz
    constructor
    · intro h
      rw [bt_nI hz, Nat.zero_testBit] at h
      cases h
    · rintro ⟨r', h, _⟩
      omega
end MPL
