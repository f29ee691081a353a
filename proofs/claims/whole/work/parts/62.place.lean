/-! ===== shadows that a figure can give ===== -/
def sl (S : Nat → Nat → Nat) (f dp x y r c : Nat) : Bool := decide (y ≤ prj r dp (S 10 0) ∧ prj r dp (S 10 0) < y + 8 ∧ x ≤ prj c dp (S 10 0) ∧ prj c dp (S 10 0) < x + 8 ∧ (S 8 (f * 8 + (prj r dp (S 10 0) - y))).testBit (prj c dp (S 10 0) - x) = true)
def plOk (S : Nat → Nat → Nat) (T : Nat → Int32) (f dp x y : Nat) : Prop := (∀ r c, r < 16 → c < 32 → sl S f dp x y r c = true → tld T (32 * r + c) = true) ∧ ∃ r c, r < 16 ∧ c < 32 ∧ sl S f dp x y r c = true
noncomputable def mkb (S : Nat → Nat → Nat) (T : Nat → Int32) (f dp x y k : Nat) : Bool := @decide (∃ r c, r < 16 ∧ c < 32 ∧ tld T (32 * r + c) = true ∧ nC T (32 * r + c) = k ∧ sl S f dp x y r c = true) (Classical.propDecidable _)
noncomputable def mkS (S : Nat → Nat → Nat) (T : Nat → Int32) (f dp x y : Nat) : Nat := bl (mkb S T f dp x y) (tCells T)
theorem mkb_at {S : Nat → Nat → Nat} {T : Nat → Int32} {f dp x y r c : Nat} (hr : r < 16) (hc : c < 32) (ht : tld T (32 * r + c) = true) : mkb S T f dp x y (nC T (32 * r + c)) = sl S f dp x y r c := by
  unfold mkb
  cases q : sl S f dp x y r c
  · refine @decide_eq_false _ (Classical.propDecidable _) ?_
    rintro ⟨r2, c2, h1, h2, h3, h4, h5⟩
    have e : 32 * r2 + c2 = 32 * r + c := fb_ct_kth_one h3 ht h4
    rw [show r2 = r by omega, show c2 = c by omega, q] at h5
    cases h5
  · exact @decide_eq_true _ (Classical.propDecidable _) ⟨r, c, hr, hc, ht, rfl, q⟩
theorem nC_kth {T : Nat → Int32} {k : Nat} (h : k < tCells T) : ∃ r c, r < 16 ∧ c < 32 ∧ tld T (32 * r + c) = true ∧ nC T (32 * r + c) = k := by
  rw [← nC_all] at h
  obtain ⟨p, h1, h2, h3⟩ := fb_ct_kth h
  refine ⟨p / 32, p % 32, by omega, by omega, ?_, ?_⟩
  · rw [show 32 * (p / 32) + p % 32 = p by omega]; exact h2
  · rw [show 32 * (p / 32) + p % 32 = p by omega]; exact h3
theorem iand0 {x y : Int32} : x &&& y = nI 0 ↔ ∀ i, i < 32 → bt x i = true → bt y i = false := by
  constructor
  · intro h i hi h1
    have e := b_and x y i
    rw [h, bt_nI hi, Nat.zero_testBit, h1, Bool.true_and] at e
    exact e.symm
  · intro h
    apply b_ext
    intro i hi
    rw [b_and, bt_nI hi, Nat.zero_testBit]
    cases q : bt x i
    · rfl
    · rw [h i hi q]; rfl
theorem ieq0 {x : Int32} : x = nI 0 ↔ ∀ i, i < 32 → bt x i = false := by
  constructor
  · intro h i hi
    rw [h, bt_nI hi, Nat.zero_testBit]
  · intro h
    apply b_ext
    intro i hi
    rw [h i hi, bt_nI hi, Nat.zero_testBit]
theorem tb8 {n i : Nat} (hn : n ≤ 255) (h : n.testBit i = true) : i < 8 := by
  by_cases q : i < 8
  · exact q
  · rw [Nat.testBit_lt_two_pow (Nat.lt_of_lt_of_le (show n < 2 ^ 8 by omega) (Nat.pow_le_pow_right (n := 2) (by decide) (show 8 ≤ i by omega)))] at h
    cases h
def hit (S : Nat → Nat → Nat) (f dp x y b z : Nat) : Prop := b < 8 ∧ y + b ≤ prj 15 dp (S 10 0) ∧ x ≤ z ∧ z ≤ prj 31 dp (S 10 0) ∧ (S 8 (f * 8 + b)).testBit (z - x) = true
theorem sl_hit {S : Nat → Nat → Nat} (hB : SB S) {f dp x y r c : Nat} (hl : dp ≤ S 10 0) (hr : r < 16) (hc : c < 32) (h : sl S f dp x y r c = true) : y ≤ prj r dp (S 10 0) ∧ hit S f dp x y (prj r dp (S 10 0) - y) (prj c dp (S 10 0)) := by
  have ht := sb10 hB
  obtain ⟨h1, h2, h3, h4, h5⟩ := of_decide_eq_true h
  have m1 := prj_mono hl (by omega) 15 r (by omega)
  have m2 := prj_mono hl (by omega) 31 c (by omega)
  exact ⟨h1, by omega, by omega, h3, m2, h5⟩
theorem hit_sl {S : Nat → Nat → Nat} (hB : SB S) {f dp x y b z r c : Nat} (h : hit S f dp x y b z) (hr : prj r dp (S 10 0) = y + b) (hc : prj c dp (S 10 0) = z) : sl S f dp x y r c = true := by
  obtain ⟨h1, h2, h3, h4, h5⟩ := h
  have := tb8 (sb8 hB _) h5
  unfold sl
  rw [hr, hc]
  refine decide_eq_true ⟨by omega, by omega, h3, by omega, ?_⟩
  rw [show y + b - y = b by omega]
  exact h5
theorem hit_ex {S : Nat → Nat → Nat} (hB : SB S) {f dp x y b z : Nat} (hl : dp ≤ S 10 0) (h : hit S f dp x y b z) : ∃ r c, r < 16 ∧ c < 32 ∧ prj r dp (S 10 0) = y + b ∧ prj c dp (S 10 0) = z := by
  have ht := sb10 hB
  obtain ⟨r, h1, h2⟩ := prj_onto hl (by omega) 15 (y + b) h.2.1
  obtain ⟨c, h3, h4⟩ := prj_onto hl (by omega) 31 z h.2.2.2.1
  exact ⟨r, c, by omega, by omega, h2, h4⟩
section PLC
variable {d : Nat} {g : aG} {I : Nat → Nat → Int32} {J : Nat → Nat → Int64} {Q : aQ} {S : Nat → Nat → Nat} {T : Nat → Int32}
theorem c_staysWithin (hg : Geo g) (hS : CS S I) (hT : TGs S T I J) {f dp x y : Nat} (hf : f < 6) (h1 : 1 ≤ dp) (h8 : dp ≤ min 8 (S 10 0)) (hx : x < 32) (hy : y < 16) (hQ1 : plOk S T f dp x y → Q (some (.int (nI 1))) (g, I, J)) (hQ0 : ¬ plOk S T f dp x y → Q (some (.int (nI 0))) (g, I, J)) : a_call aTab aMX (d + 2) m_Prints_staysWithin [.ref 7, .int (nI f), .ref 50, .int (nI dp), .int (nI x), .int (nI y)] (g, I, J) Q := by
  have ht := sb10 hS.2
  have hl : dp ≤ S 10 0 := by omega
  obtain ⟨⟨a1, a2, a3⟩, ⟨b1, b2, b3⟩, ⟨c1, c2, c3⟩⟩ := rows9 hg dp (by omega)
  obtain ⟨t1, t2, t3⟩ := hT.2.2.2.2 dp h1 h8
  have hA := prj_c (c := 31) (by omega) hl (by omega)
  have hB := prj_r (r := 15) (by omega) hl (by omega)
  have e54 : I (54 + dp) 31 = nI (prj 31 dp (S 10 0)) := t1 31 (by omega)
  have e64 : I (64 + dp) 15 = nI (prj 15 dp (S 10 0)) := t2 15 (by omega)
  have eA : (if prj 31 dp (S 10 0) < 31 then nI (prj 31 dp (S 10 0)) else nI 31) = nI (prj 31 dp (S 10 0)) := by
    by_cases q : prj 31 dp (S 10 0) < 31
    · exact if_pos q
    · rw [if_neg q, show prj 31 dp (S 10 0) = 31 by omega]
  have eB : (if prj 15 dp (S 10 0) + 1 < 16 then nI (prj 15 dp (S 10 0) + 1) else nI 16) = nI (prj 15 dp (S 10 0) + 1) := by
    by_cases q : prj 15 dp (S 10 0) + 1 < 16
    · exact if_pos q
    · rw [if_neg q, show prj 15 dp (S 10 0) + 1 = 16 by omega]
  have hit31 : ∀ b z, hit S f dp x y b z → z < 32 := fun b z h => by have := h.2.2.2.1; omega
  rw [e_Prints_staysWithin, b_Prints_staysWithin_0 hg]
  simp (disch := omega) only [↓reduceIte, nadd, nmul, nsub, nlt, neq, ncl, nvi, ndiv, nrem, exI, exJ, exV, eq_self, true_and, and_true, true_or, or_true, if_true, if_false, not_true, not_false_eq_true, false_and, and_false, decide_true, decide_false, bi_T, bi_F, bi_0, bi_1, bi_z, bft, n10, n01, Nat.reduceEqDiff, Nat.reduceLT, Nat.reduceAdd, Nat.reduceMul, reduceCtorEq, a1, a2, a3, b1, b2, b3, e54, e64]
  rw [eA, eB, nsub (by omega)]
  generalize hV : ((-1 : Int32).toUInt32 >>> ((nI (31 - prj 31 dp (S 10 0))).toUInt32 &&& Int32.toUInt32 31)).toInt32 = V
  have bV : ∀ z, z < 32 → bt V z = decide (z ≤ prj 31 dp (S 10 0)) := by
    intro z hz
    rw [← hV, b_ushr _ (by omega)]
    by_cases q : z ≤ prj 31 dp (S 10 0)
    · rw [decide_eq_true q]; exact b_m1 _ (by omega)
    · rw [decide_eq_false q]
      exact BitVec.getLsbD_of_ge _ _ (by omega)
  clear hV
  have bits : ∀ b, b < 8 → y + b ≤ prj 15 dp (S 10 0) → ∀ z, z < 32 → (bt (nI (S 8 (f * 8 + b)) <<< (nI x &&& 31) &&& V) z = true ↔ hit S f dp x y b z) := by
    intro b hb h2 z hz
    rw [b_and, b_shl _ hx _ hz, bV z hz, bt_nI (by omega), Bool.and_eq_true, Bool.and_eq_true, decide_eq_true_iff, decide_eq_true_iff]
    constructor
    · rintro ⟨⟨h3, h4⟩, h5⟩
      exact ⟨hb, h2, h3, h5, h4⟩
    · rintro ⟨_, _, h3, h5, h4⟩
      exact ⟨⟨h3, h4⟩, h5⟩
  -- what is told at the end
  have fin : ∀ (any : Int32) b, (∀ b' z, hit S f dp x y b' z → b' < b) → (∀ b', b' < b → ∀ z, hit S f dp x y b' z → bt (I (74 + dp) (y + b')) z = false) → (∀ z, z < 32 → (bt any z = true ↔ ∃ b', b' < b ∧ hit S f dp x y b' z)) → ∀ v6 v7 v8 v10 v11, a_wp aTab aMX (d + 1) m_Prints_staysWithin 119 [.ref 7, .int (nI f), .ref 50, .int (nI dp), .int (nI x), .int (nI y), v6, v7, v8, .int any, v10, v11] [] (g, I, J) Q := by
    intro any b k1 k2 k3 v6 v7 v8 v10 v11
    have hall : ∀ r c, r < 16 → c < 32 → sl S f dp x y r c = true → tld T (32 * r + c) = true := by
      intro r c hr hc hs
      obtain ⟨q1, q2⟩ := sl_hit hS.2 hl hr hc hs
      have q3 := k2 _ (k1 _ _ q2) _ q2
      cases q4 : tld T (32 * r + c)
      · have := (t3 (y + (prj r dp (S 10 0) - y)) (by have := prj_r hr hl (by omega); omega) _ (hit31 _ _ q2)).2 ⟨r, c, hr, hc, by omega, rfl, q4⟩
        rw [q3] at this
        cases this
      · rfl
    rw [b_Prints_staysWithin_119]
    by_cases q : any = nI 0
    · rw [if_pos q]
      simp (disch := omega) only [b_Prints_staysWithin_128, b_Prints_staysWithin_129, ↓reduceIte, nadd, nmul, nsub, nlt, neq, ncl, nvi, ndiv, nrem, exI, exJ, exV, eq_self, true_and, and_true, true_or, or_true, if_true, if_false, not_true, not_false_eq_true, false_and, and_false, decide_true, decide_false, bi_T, bi_F, bi_0, bi_1, bi_z, bft, n10, n01, Nat.reduceEqDiff, Nat.reduceLT, Nat.reduceAdd, Nat.reduceMul, reduceCtorEq]
      refine hQ0 ?_
      rintro ⟨_, r, c, hr, hc, hs⟩
      obtain ⟨q1, q2⟩ := sl_hit hS.2 hl hr hc hs
      have := (k3 _ (hit31 _ _ q2)).2 ⟨_, k1 _ _ q2, q2⟩
      rw [ieq0.1 q _ (hit31 _ _ q2)] at this
      cases this
    · rw [if_neg q]
      simp (disch := omega) only [b_Prints_staysWithin_124, b_Prints_staysWithin_129, ↓reduceIte, nadd, nmul, nsub, nlt, neq, ncl, nvi, ndiv, nrem, exI, exJ, exV, eq_self, true_and, and_true, true_or, or_true, if_true, if_false, not_true, not_false_eq_true, false_and, and_false, decide_true, decide_false, bi_T, bi_F, bi_0, bi_1, bi_z, bft, n10, n01, Nat.reduceEqDiff, Nat.reduceLT, Nat.reduceAdd, Nat.reduceMul, reduceCtorEq]
      refine hQ1 ⟨hall, ?_⟩
      apply Classical.byContradiction
      intro hn
      apply q
      rw [ieq0]
      intro i hi
      cases q4 : bt any i
      · rfl
      · obtain ⟨b', _, hh⟩ := (k3 i hi).1 q4
        obtain ⟨r, c, r1, r2, r3, r4⟩ := hit_ex hS.2 hl hh
        exact absurd ⟨r, c, r1, r2, hit_sl hS.2 hh r3 r4⟩ hn
  refine dn (P := fun b => ∀ any : Int32, (∀ b', b' < b → ∀ z, hit S f dp x y b' z → bt (I (74 + dp) (y + b')) z = false) → (∀ z, z < 32 → (bt any z = true ↔ ∃ b', b' < b ∧ hit S f dp x y b' z)) → ∀ v6 v11, a_wp aTab aMX (d + 1) m_Prints_staysWithin 49 [.ref 7, .int (nI f), .ref 50, .int (nI dp), .int (nI x), .int (nI y), v6, .int V, .int (nI (prj 15 dp (S 10 0) + 1)), .int any, .int (nI b), v11] [] (g, I, J) Q) (n := 8) ?_ ?_ 0 (by omega) (nI 0) (fun b' hb => absurd hb (by omega)) ?_ _ _
  · intro any k2 k3 v6 v11
    simp (disch := omega) only [b_Prints_staysWithin_49, ↓reduceIte, nadd, nmul, nsub, nlt, neq, ncl, nvi, ndiv, nrem, exI, exJ, exV, eq_self, true_and, and_true, true_or, or_true, if_true, if_false, not_true, not_false_eq_true, false_and, and_false, decide_true, decide_false, bi_T, bi_F, bi_0, bi_1, bi_z, bft, n10, n01, Nat.reduceEqDiff, Nat.reduceLT, Nat.reduceAdd, Nat.reduceMul, reduceCtorEq, Nat.lt_irrefl]
    exact fin any 8 (fun b' z h => h.1) k2 k3 _ _ _ _ _
  · intro b hb ih any k2 k3 v6 v11
    simp (disch := omega) only [b_Prints_staysWithin_49, b_Prints_staysWithin_56, ↓reduceIte, nadd, nmul, nsub, nlt, neq, ncl, nvi, ndiv, nrem, exI, exJ, exV, eq_self, true_and, and_true, true_or, or_true, if_true, if_false, not_true, not_false_eq_true, false_and, and_false, decide_true, decide_false, bi_T, bi_F, bi_0, bi_1, bi_z, bft, n10, n01, Nat.reduceEqDiff, Nat.reduceLT, Nat.reduceAdd, Nat.reduceMul, reduceCtorEq, hb]
    by_cases q : y + b < prj 15 dp (S 10 0) + 1
    rotate_left
    · rw [if_neg q]
      exact fin any b (fun b' z h => by have := h.2.1; omega) k2 k3 _ _ _ _ _
    rw [if_pos q, b_Prints_staysWithin_66 hg]
    have hb2 : f * 8 + b < 48 := by omega
    simp (disch := omega) only [↓reduceIte, nadd, nmul, nsub, nlt, neq, ncl, nvi, ndiv, nrem, exI, exJ, exV, eq_self, true_and, and_true, true_or, or_true, if_true, if_false, not_true, not_false_eq_true, false_and, and_false, decide_true, decide_false, bi_T, bi_F, bi_0, bi_1, bi_z, bft, n10, n01, Nat.reduceEqDiff, Nat.reduceLT, Nat.reduceAdd, Nat.reduceMul, reduceCtorEq, c1, c2, c3, hb2, cs8 hS]
    generalize hBB : nI (S 8 (f * 8 + b)) <<< (nI x &&& 31) &&& V = BB
    have bB := bits b hb (by omega)
    rw [hBB] at bB
    by_cases q2 : BB &&& I (74 + dp) (y + b) = nI 0
    · rw [if_pos q2, b_Prints_staysWithin_106, nadd]
      refine ih _ ?_ ?_ _ _
      · intro b' hb' z hz
        by_cases z2 : b' = b
        · rw [z2] at hz ⊢
          exact iand0.1 q2 z (hit31 _ _ hz) ((bB z (hit31 _ _ hz)).2 hz)
        · exact k2 b' (by omega) z hz
      · intro z hz
        rw [b_or, Bool.or_eq_true, k3 z hz, bB z hz]
        constructor
        · rintro (⟨b', h3, h4⟩ | h3)
          · exact ⟨b', by omega, h4⟩
          · exact ⟨b, by omega, h3⟩
        · rintro ⟨b', h3, h4⟩
          by_cases z2 : b' = b
          · right; rw [z2] at h4; exact h4
          · left; exact ⟨b', by omega, h4⟩
    · rw [if_neg q2, b_Prints_staysWithin_104]
      refine hQ0 ?_
      rintro ⟨hall, _⟩
      apply q2
      rw [iand0]
      intro z hz h3
      have hh := (bB z hz).1 h3
      cases q4 : bt (I (74 + dp) (y + b)) z
      · rfl
      · obtain ⟨r, c, r1, r2, r3, r4, r5⟩ := (t3 (y + b) (by omega) z hz).1 q4
        have := hall r c r1 r2 (hit_sl hS.2 hh r3 r4)
        rw [r5] at this
        cases this
  · intro z hz
    constructor
    · intro h
      rw [bt_nI hz, Nat.zero_testBit] at h
      cases h
    · rintro ⟨b', h, _⟩
      omega
theorem c_maskAt (hg : Geo g) (hS : CS S I) (hT : TGs S T I J) (hc64 : tCells T ≤ 64) {f dp x y : Nat} (hf : f < 6) (h1 : 1 ≤ dp) (h8 : dp ≤ min 8 (S 10 0)) (hx : x < 32) (hy : y < 16) : a_call aTab aMX (d + 2) m_Prints_maskAt [.ref 7, .int (nI f), .ref 50, .int (nI dp), .int (nI x), .int (nI y)] (g, I, J) Q = Q (some (.long (lN (mkS S T f dp x y)))) (g, I, J) := by
  have ht := sb10 hS.2
  have hl : dp ≤ S 10 0 := by omega
  obtain ⟨⟨a1, a2, a3⟩, ⟨b1, b2, b3⟩, -⟩ := rows9 hg dp (by omega)
  obtain ⟨t1, t2, -⟩ := hT.2.2.2.2 dp h1 h8
  rw [e_Prints_maskAt, b_Prints_maskAt_0]
  refine dn (P := fun k => ∀ v9 v10, a_wp aTab aMX (d + 1) m_Prints_maskAt 6 [.ref 7, .int (nI f), .ref 50, .int (nI dp), .int (nI x), .int (nI y), .long (lN (bl (mkb S T f dp x y) k)), aU, .int (nI k), v9, v10] [] (g, I, J) Q = Q (some (.long (lN (mkS S T f dp x y)))) (g, I, J)) (n := tCells T) ?_ ?_ 0 (by omega) _ _
  · intro v9 v10
    simp (disch := omega) only [b_Prints_maskAt_6 hg, b_Prints_maskAt_113, ↓reduceIte, nadd, nmul, nsub, nlt, neq, ncl, nvi, ndiv, nrem, exI, exJ, exV, eq_self, true_and, and_true, true_or, or_true, if_true, if_false, not_true, not_false_eq_true, false_and, and_false, decide_true, decide_false, bi_T, bi_F, bi_0, bi_1, bi_z, bft, n10, n01, Nat.reduceEqDiff, Nat.reduceLT, Nat.reduceAdd, Nat.reduceMul, reduceCtorEq, hT.1, Nat.lt_irrefl]
    rfl
  · intro k hk ih v9 v10
    obtain ⟨r, c, hr, hc, htl, hn⟩ := nC_kth hk
    have em := mkb_at (S := S) (f := f) (dp := dp) (x := x) (y := y) hr hc htl
    rw [hn] at em
    obtain ⟨e51, e52⟩ := hT.2.2.2.1 (32 * r + c) (by omega) htl
    rw [hn, show (32 * r + c) % 32 = c by omega] at e51
    rw [hn, show (32 * r + c) / 32 = r by omega] at e52
    have hpc := prj_c hc hl (by omega)
    have hpr := prj_r hr hl (by omega)
    unfold bl at ih
    rw [em] at ih
    rw [b_Prints_maskAt_6 hg]
    simp (disch := omega) only [b_Prints_maskAt_15 hg, ↓reduceIte, nadd, nmul, nsub, nlt, neq, ncl, nvi, ndiv, nrem, exI, exJ, exV, eq_self, true_and, and_true, true_or, or_true, if_true, if_false, not_true, not_false_eq_true, false_and, and_false, decide_true, decide_false, bi_T, bi_F, bi_0, bi_1, bi_z, bft, n10, n01, Nat.reduceEqDiff, Nat.reduceLT, Nat.reduceAdd, Nat.reduceMul, reduceCtorEq, hT.1, hk, a1, a2, a3, b1, b2, b3, e51, e52, t1, t2]
    unfold sl at ih
    by_cases q1 : prj c dp (S 10 0) < x
    · have q2 : ¬ x ≤ prj c dp (S 10 0) := by omega
      simp only [q2, exI, exJ, exV, eq_self, true_and, and_true, true_or, or_true, if_true, if_false, not_true, not_false_eq_true, false_and, and_false, decide_true, decide_false, bi_T, bi_F, bi_0, bi_1, bi_z, bft, n10, n01, Nat.reduceEqDiff, Nat.reduceLT, Nat.reduceAdd, Nat.reduceMul, reduceCtorEq] at ih
      simp (disch := omega) only [subneg, b_Prints_maskAt_107, ↓reduceIte, nadd, nmul, nsub, nlt, neq, ncl, nvi, ndiv, nrem, exI, exJ, exV, eq_self, true_and, and_true, true_or, or_true, if_true, if_false, not_true, not_false_eq_true, false_and, and_false, decide_true, decide_false, bi_T, bi_F, bi_0, bi_1, bi_z, bft, n10, n01, Nat.reduceEqDiff, Nat.reduceLT, Nat.reduceAdd, Nat.reduceMul, reduceCtorEq]
      exact ih _ _
    have q2 : x ≤ prj c dp (S 10 0) := by omega
    by_cases q3 : prj c dp (S 10 0) < x + 8
    rotate_left
    · have q4 : ¬ prj c dp (S 10 0) - x < 8 := by omega
      simp only [q3, exI, exJ, exV, eq_self, true_and, and_true, true_or, or_true, if_true, if_false, not_true, not_false_eq_true, false_and, and_false, decide_true, decide_false, bi_T, bi_F, bi_0, bi_1, bi_z, bft, n10, n01, Nat.reduceEqDiff, Nat.reduceLT, Nat.reduceAdd, Nat.reduceMul, reduceCtorEq] at ih
      simp (disch := omega) only [b_Prints_maskAt_58, b_Prints_maskAt_107, ↓reduceIte, nadd, nmul, nsub, nlt, neq, ncl, nvi, ndiv, nrem, exI, exJ, exV, eq_self, true_and, and_true, true_or, or_true, if_true, if_false, not_true, not_false_eq_true, false_and, and_false, decide_true, decide_false, bi_T, bi_F, bi_0, bi_1, bi_z, bft, n10, n01, Nat.reduceEqDiff, Nat.reduceLT, Nat.reduceAdd, Nat.reduceMul, reduceCtorEq, q4, Nat.not_lt_zero]
      exact ih _ _
    have q4 : prj c dp (S 10 0) - x < 8 := by omega
    by_cases q5 : prj r dp (S 10 0) < y
    · have q6 : ¬ y ≤ prj r dp (S 10 0) := by omega
      simp only [q6, exI, exJ, exV, eq_self, true_and, and_true, true_or, or_true, if_true, if_false, not_true, not_false_eq_true, false_and, and_false, decide_true, decide_false, bi_T, bi_F, bi_0, bi_1, bi_z, bft, n10, n01, Nat.reduceEqDiff, Nat.reduceLT, Nat.reduceAdd, Nat.reduceMul, reduceCtorEq] at ih
      simp (disch := omega) only [subneg, b_Prints_maskAt_58, b_Prints_maskAt_65, b_Prints_maskAt_107, ↓reduceIte, nadd, nmul, nsub, nlt, neq, ncl, nvi, ndiv, nrem, exI, exJ, exV, eq_self, true_and, and_true, true_or, or_true, if_true, if_false, not_true, not_false_eq_true, false_and, and_false, decide_true, decide_false, bi_T, bi_F, bi_0, bi_1, bi_z, bft, n10, n01, Nat.reduceEqDiff, Nat.reduceLT, Nat.reduceAdd, Nat.reduceMul, reduceCtorEq, q4, Nat.not_lt_zero]
      exact ih _ _
    have q6 : y ≤ prj r dp (S 10 0) := by omega
    by_cases q7 : prj r dp (S 10 0) < y + 8
    rotate_left
    · have q8 : ¬ prj r dp (S 10 0) - y < 8 := by omega
      simp only [q7, exI, exJ, exV, eq_self, true_and, and_true, true_or, or_true, if_true, if_false, not_true, not_false_eq_true, false_and, and_false, decide_true, decide_false, bi_T, bi_F, bi_0, bi_1, bi_z, bft, n10, n01, Nat.reduceEqDiff, Nat.reduceLT, Nat.reduceAdd, Nat.reduceMul, reduceCtorEq] at ih
      simp (disch := omega) only [b_Prints_maskAt_58, b_Prints_maskAt_65, b_Prints_maskAt_70, b_Prints_maskAt_107, ↓reduceIte, nadd, nmul, nsub, nlt, neq, ncl, nvi, ndiv, nrem, exI, exJ, exV, eq_self, true_and, and_true, true_or, or_true, if_true, if_false, not_true, not_false_eq_true, false_and, and_false, decide_true, decide_false, bi_T, bi_F, bi_0, bi_1, bi_z, bft, n10, n01, Nat.reduceEqDiff, Nat.reduceLT, Nat.reduceAdd, Nat.reduceMul, reduceCtorEq, q4, q8, Nat.not_lt_zero]
      exact ih _ _
    have q8 : prj r dp (S 10 0) - y < 8 := by omega
    have q9 : f * 8 + (prj r dp (S 10 0) - y) < 48 := by omega
    simp only [q2, q3, q6, q7, exI, exJ, exV, eq_self, true_and, and_true, true_or, or_true, if_true, if_false, not_true, not_false_eq_true, false_and, and_false, decide_true, decide_false, bi_T, bi_F, bi_0, bi_1, bi_z, bft, n10, n01, Nat.reduceEqDiff, Nat.reduceLT, Nat.reduceAdd, Nat.reduceMul, reduceCtorEq] at ih
    simp (disch := omega) only [b_Prints_maskAt_58, b_Prints_maskAt_65, b_Prints_maskAt_70, b_Prints_maskAt_77 hg, b_Prints_maskAt_98, b_Prints_maskAt_107, ↓reduceIte, nadd, nmul, nsub, nlt, neq, ncl, nvi, ndiv, nrem, exI, exJ, exV, eq_self, true_and, and_true, true_or, or_true, if_true, if_false, not_true, not_false_eq_true, false_and, and_false, decide_true, decide_false, bi_T, bi_F, bi_0, bi_1, bi_z, bft, n10, n01, Nat.reduceEqDiff, Nat.reduceLT, Nat.reduceAdd, Nat.reduceMul, reduceCtorEq, q4, q8, q9, Nat.not_lt_zero, cs8 hS, bt_sh, bt_nI]
    cases q10 : (S 8 (f * 8 + (prj r dp (S 10 0) - y))).testBit (prj c dp (S 10 0) - x)
    · rw [q10] at ih
      simp only [exI, exJ, exV, eq_self, true_and, and_true, true_or, or_true, if_true, if_false, not_true, not_false_eq_true, false_and, and_false, decide_true, decide_false, bi_T, bi_F, bi_0, bi_1, bi_z, bft, n10, n01, Nat.reduceEqDiff, Nat.reduceLT, Nat.reduceAdd, Nat.reduceMul, reduceCtorEq] at ih
      simp (disch := omega) only [↓reduceIte, nadd, nmul, nsub, nlt, neq, ncl, nvi, ndiv, nrem, exI, exJ, exV, eq_self, true_and, and_true, true_or, or_true, if_true, if_false, not_true, not_false_eq_true, false_and, and_false, decide_true, decide_false, bi_T, bi_F, bi_0, bi_1, bi_z, bft, n10, n01, Nat.reduceEqDiff, Nat.reduceLT, Nat.reduceAdd, Nat.reduceMul, reduceCtorEq]
      exact ih _ _
    · rw [q10] at ih
      simp only [exI, exJ, exV, eq_self, true_and, and_true, true_or, or_true, if_true, if_false, not_true, not_false_eq_true, false_and, and_false, decide_true, decide_false, bi_T, bi_F, bi_0, bi_1, bi_z, bft, n10, n01, Nat.reduceEqDiff, Nat.reduceLT, Nat.reduceAdd, Nat.reduceMul, reduceCtorEq] at ih
      simp (disch := omega) only [↓reduceIte, nadd, nmul, nsub, nlt, neq, ncl, nvi, ndiv, nrem, exI, exJ, exV, eq_self, true_and, and_true, true_or, or_true, if_true, if_false, not_true, not_false_eq_true, false_and, and_false, decide_true, decide_false, bi_T, bi_F, bi_0, bi_1, bi_z, bft, n10, n01, Nat.reduceEqDiff, Nat.reduceLT, Nat.reduceAdd, Nat.reduceMul, reduceCtorEq, lshl1, fb_orL]
      exact ih _ _
end PLC
