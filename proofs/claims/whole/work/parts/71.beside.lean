/-! ===== ways with three figures: pairs beside a shadow ===== -/
theorem rlt {x a : Nat} {t e : Prop} (hx : x < 2147483648) (ha : a < 2147483648) : (if nI x < nI a then t else e) = (if x < a then t else e) := by simp only [nlt hx ha]
theorem req {x a : Nat} {t e : Prop} (hx : x < 2147483648) (ha : a < 2147483648) : (if nI x = nI a then t else e) = (if x = a then t else e) := by simp only [neq hx ha]
theorem rLe {x a : Nat} {t e : Prop} (hx : x < 2 ^ 64) (ha : a < 2 ^ 64) : (if lN x = lN a then t else e) = (if x = a then t else e) := by simp only [lN64 hx ha]
theorem sm_swap (p : Nat → Nat → Bool) (m : Nat) : ∀ n, fb_sm (fun k => fb_ct (fun j => p j k) n) m = fb_sm (fun j => fb_ct (fun k => p j k) m) n
  | 0 => by
    show fb_sm (fun _ => 0) m = 0
    rw [fb_sm_const, Nat.mul_zero]
  | n + 1 => by
    have ih := sm_swap p m n
    rw [fb_sm_succ, ← ih]
    show fb_sm (fun k => fb_ct (fun j => p j k) n + (if p n k then 1 else 0)) m = _
    rw [fb_sm_add]
    congr 1
    have : ∀ m, fb_sm (fun k => if p n k then 1 else 0) m = fb_ct (fun k => p n k) m := by
      intro m
      induction m with
      | zero => rfl
      | succ m ihm => rw [fb_sm_succ, fb_ct_succ, ihm]
    exact this m
theorem gd3_sw {fu a b c : Nat} : gd3 fu a b c ↔ gd3 fu a c b := by
  unfold gd3
  rw [Nat.or_comm b c]
  constructor
  · rintro ⟨h1, h2, h3, h4⟩
    exact ⟨fun i hi => by have := h1 i hi; rcases this with w | w | w <;> simp [w], h2, h4, h3⟩
  · rintro ⟨h1, h2, h3, h4⟩
    exact ⟨fun i hi => by have := h1 i hi; rcases this with w | w | w <;> simp [w], h2, h4, h3⟩
theorem sbs_or {a b c : Nat} (h : sbs a c) (h2 : sbs b c) : sbs (a ||| b) c := by
  intro i hi
  rw [Nat.testBit_or, Bool.or_eq_true] at hi
  exact hi.elim (h i) (h2 i)
theorem sbs_dif {a b c : Nat} (ha : a < 2 ^ 64) : sbs (dif a b) c ↔ sbs a (b ||| c) := by
  constructor
  · intro h i hi
    rw [Nat.testBit_or, Bool.or_eq_true]
    cases q : b.testBit i
    · right
      exact h i (by rw [dif_bit ha, hi, q]; rfl)
    · left; rfl
  · intro h i hi
    rw [dif_bit ha, Bool.and_eq_true] at hi
    have := h i hi.1
    rw [Nat.testBit_or, Bool.or_eq_true] at this
    rcases this with w | w
    · rw [w] at hi; cases hi.2
    · exact w
theorem fit3 {F : Nat → Nat} {fu a b k : Nat} {lk : Option Nat} (hfu : fu < 2 ^ 64) (ha : a < 2 ^ 64) (hb : b < 2 ^ 64) (hop : ¬ sbs fu (a ||| b)) : fits F (dif fu (a ||| b)) (dif a b) (dif b a) lk k = bP (gd3 fu a b (F k) ∧ ∀ c, lk = some c → (F k).testBit c = false) := by
  refine Bool.eq_iff_iff.2 ?_
  rw [fits_t, bP_t, sbs_dif ha, sbs_dif hb, sbs_dif hfu]
  unfold gd3
  constructor
  · rintro ⟨h1, h2, h3, h4⟩
    refine ⟨⟨fun i hi => ?_, h2, h3, fun w => ?_⟩, h4⟩
    · have := h1 i hi
      rw [Nat.testBit_or, Nat.testBit_or, Bool.or_eq_true, Bool.or_eq_true] at this
      rcases this with (w | w) | w <;> simp [w]
    · apply hop
      intro i hi
      have := h1 i hi
      rw [Nat.testBit_or, Bool.or_eq_true] at this
      exact this.elim id (w i)
  · rintro ⟨⟨h1, h2, h3, h4⟩, h5⟩
    refine ⟨fun i hi => ?_, h2, h3, h5⟩
    rw [Nat.testBit_or, Nat.testBit_or, Bool.or_eq_true, Bool.or_eq_true]
    rcases h1 i hi with w | w | w <;> simp [w]
theorem gd3_no {fu a b c : Nat} (hop : sbs fu (a ||| b)) (hc : sbs c fu) : ¬ gd3 fu a b c := fun h => h.2.2.2 (fun i hi => hop i (hc i hi))
def lexle (x y x' y' : Nat) : Prop := x < x' ∨ (x = x' ∧ y ≤ y')
def Xb (I I' : Nat → Nat → Int32) : Prop := ∀ a k, ¬ (a = 49 ∧ (k = 11 ∨ k = 12 ∨ k = 13)) → I' a k = I a k
theorem Xb_M {I I' : Nat → Nat → Int32} (h : Xb I I') : XM I I' := fun a k _ h2 => h a k (by omega)
theorem Xb_t {I I' I2 : Nat → Nat → Int32} (h1 : Xb I I') (h2 : Xb I' I2) : Xb I I2 := fun a k h3 => (h2 a k h3).trans (h1 a k h3)
theorem Xk_b {I I' : Nat → Nat → Int32} (h : Xk I I') : Xb I I' := fun a k h2 => h a k (by omega)
def swp (tn : Bool) (n k : Nat) : Nat × Nat := if tn then (k, n) else (n, k)
section BSD
variable {d : Nat} {g : aG} {I : Nat → Nat → Int32} {J : Nat → Nat → Int64} {Q : aQ}
theorem c_keepFirst (hg : Geo g) {x y a b : Nat} (hx : x < 2147483648) (hy : y < 2147483648) (ha : a < 2147483648) (hb : b < 2147483648) (h11 : I 49 11 = nI a) (h12 : I 49 12 = nI b) (hQ1 : lexle x y a b → Q none (g, u2 (u2 I 49 11 (nI x)) 49 12 (nI y), J)) (hQ0 : lexle a b x y → Q none (g, I, J)) : a_call aTab aMX (d + 1) m_Maker_keepFirst [.ref 49, .int (nI x), .int (nI y)] (g, I, J) Q := by
  rw [e_Maker_keepFirst, b_Maker_keepFirst_0 hg, h11, rlt hx ha]
  by_cases q1 : x < a
  · rw [if_pos q1, b_Maker_keepFirst_24 hg, b_Maker_keepFirst_34]
    exact hQ1 (Or.inl q1)
  rw [if_neg q1, b_Maker_keepFirst_8 hg, h11, req hx ha]
  by_cases q2 : x = a
  · rw [if_pos q2, b_Maker_keepFirst_16 hg, h12, rlt hy hb]
    by_cases q3 : y < b
    · rw [if_pos q3, b_Maker_keepFirst_24 hg, b_Maker_keepFirst_34]
      exact hQ1 (Or.inr ⟨q2, by omega⟩)
    · rw [if_neg q3, b_Maker_keepFirst_34]
      exact hQ0 (Or.inr ⟨q2.symm, by omega⟩)
  · rw [if_neg q2, b_Maker_keepFirst_34]
    exact hQ0 (Or.inl (by omega))
theorem c_rarestCell (hg : Geo g) {p r rest : Nat} {L M : List (Nat × Nat)} (hP : PO g p) (hI : PI p L I J) (hn : L.length ≤ 1632) (hR : PO g r) (hI2 : PI r M I J) (hn2 : M.length ≤ 1632) (hr : rest < 2 ^ 64) (hz : rest ≠ 0) (hQ : ∀ c, c < 64 → rest.testBit c = true → Q (some (.int (nI c))) (g, I, J)) : a_call aTab aMX (d + 3) m_Maker_rarestCell [.long (lN rest), .ref p, .ref r] (g, I, J) Q := by
  obtain ⟨p0, k0, -, -, -, ⟨r6, k6, n6⟩, -⟩ := hP
  obtain ⟨p0', k0', -, -, -, ⟨r6', k6', n6'⟩, -⟩ := hR
  obtain ⟨-, -, -, -, -, i6, -, -⟩ := hI
  obtain ⟨-, -, -, -, -, i6', -, -⟩ := hI2
  obtain ⟨b, hb⟩ := lw_ex hz
  have hb64 : b < 64 := by
    by_cases q : b < 64
    · exact q
    · have := hb.1
      rw [tb64 hr (by omega)] at this
      cases this
  have hm63 : b &&& 63 = b := by
    have := Nat.and_two_pow_sub_one_eq_mod b 6
    rw [show (63 : Nat) = 2 ^ 6 - 1 from rfl, this]
    omega
  rw [e_Maker_rarestCell]
  simp (disch := omega) only [b_Maker_rarestCell_0, ↓reduceIte, nadd, nmul, nsub, nlt, neq, ncl, nvi, ndiv, nrem, exI, exJ, exV, eq_self, true_and, and_true, true_or, or_true, if_true, if_false, not_true, not_false_eq_true, false_and, and_false, decide_true, decide_false, bi_T, bi_F, bi_0, bi_1, bi_z, bft, n10, n01, Nat.reduceEqDiff, Nat.reduceLT, Nat.reduceAdd, Nat.reduceMul, reduceCtorEq, c_ntzL hr hb.1 hb.2]
  simp (disch := omega) only [b_Maker_rarestCell_4, ↓reduceIte, nadd, nmul, nsub, nlt, neq, ncl, nvi, ndiv, nrem, exI, exJ, exV, eq_self, true_and, and_true, true_or, or_true, if_true, if_false, not_true, not_false_eq_true, false_and, and_false, decide_true, decide_false, bi_T, bi_F, bi_0, bi_1, bi_z, bft, n10, n01, Nat.reduceEqDiff, Nat.reduceLT, Nat.reduceAdd, Nat.reduceMul, reduceCtorEq, nand, hm63]
  have key : ∀ k, k ≤ 64 → ∀ c, c < 64 → rest.testBit c = true → a_wp aTab aMX (d + 2) m_Maker_rarestCell 13 [.long (lN rest), aU, .ref p, .ref r, .int (nI c), .int (nI k)] [] (g, I, J) Q := by
    refine dn ?_ ?_
    · intro c hc hcb
      simp (disch := omega) only [b_Maker_rarestCell_13, b_Maker_rarestCell_74, ↓reduceIte, nadd, nmul, nsub, nlt, neq, ncl, nvi, ndiv, nrem, exI, exJ, exV, eq_self, true_and, and_true, true_or, or_true, if_true, if_false, not_true, not_false_eq_true, false_and, and_false, decide_true, decide_false, bi_T, bi_F, bi_0, bi_1, bi_z, bft, n10, n01, Nat.reduceEqDiff, Nat.reduceLT, Nat.reduceAdd, Nat.reduceMul, reduceCtorEq, Nat.lt_irrefl]
      exact hQ c hc hcb
    · intro k hk ih c hc hcb
      rw [b_Maker_rarestCell_13]
      simp (disch := omega) only [b_Maker_rarestCell_20, ↓reduceIte, nadd, nmul, nsub, nlt, neq, ncl, nvi, ndiv, nrem, exI, exJ, exV, eq_self, true_and, and_true, true_or, or_true, if_true, if_false, not_true, not_false_eq_true, false_and, and_false, decide_true, decide_false, bi_T, bi_F, bi_0, bi_1, bi_z, bft, n10, n01, Nat.reduceEqDiff, Nat.reduceLT, Nat.reduceAdd, Nat.reduceMul, reduceCtorEq, hk, lbit hr, lb1]
      cases q : rest.testBit k
      · simp (disch := omega) only [b_Maker_rarestCell_68, ↓reduceIte, nadd, nmul, nsub, nlt, neq, ncl, nvi, ndiv, nrem, exI, exJ, exV, eq_self, true_and, and_true, true_or, or_true, if_true, if_false, not_true, not_false_eq_true, false_and, and_false, decide_true, decide_false, bi_T, bi_F, bi_0, bi_1, bi_z, bft, n10, n01, Nat.reduceEqDiff, Nat.reduceLT, Nat.reduceAdd, Nat.reduceMul, reduceCtorEq]
        exact ih c hc hcb
      · have l1 := fb_ct_le (fun i => (LM L i).testBit k) L.length
        have l2 := fb_ct_le (fun i => (LM M i).testBit k) M.length
        have l3 := fb_ct_le (fun i => (LM L i).testBit c) L.length
        have l4 := fb_ct_le (fun i => (LM M i).testBit c) M.length
        simp (disch := omega) only [b_Maker_rarestCell_31, ↓reduceIte, nadd, nmul, nsub, nlt, neq, ncl, nvi, ndiv, nrem, exI, exJ, exV, eq_self, true_and, and_true, true_or, or_true, if_true, if_false, not_true, not_false_eq_true, false_and, and_false, decide_true, decide_false, bi_T, bi_F, bi_0, bi_1, bi_z, bft, n10, n01, Nat.reduceEqDiff, Nat.reduceLT, Nat.reduceAdd, Nat.reduceMul, reduceCtorEq, k0, r6, k6, n6, k0', r6', k6', n6', hk, hc, i6 k hk, i6' k hk, i6 c hc, i6' c hc]
        split
        · simp (disch := omega) only [b_Maker_rarestCell_64, b_Maker_rarestCell_68, ↓reduceIte, nadd, nmul, nsub, nlt, neq, ncl, nvi, ndiv, nrem, exI, exJ, exV, eq_self, true_and, and_true, true_or, or_true, if_true, if_false, not_true, not_false_eq_true, false_and, and_false, decide_true, decide_false, bi_T, bi_F, bi_0, bi_1, bi_z, bft, n10, n01, Nat.reduceEqDiff, Nat.reduceLT, Nat.reduceAdd, Nat.reduceMul, reduceCtorEq]
          exact ih k hk q
        · simp (disch := omega) only [b_Maker_rarestCell_68, ↓reduceIte, nadd, nmul, nsub, nlt, neq, ncl, nvi, ndiv, nrem, exI, exJ, exV, eq_self, true_and, and_true, true_or, or_true, if_true, if_false, not_true, not_false_eq_true, false_and, and_false, decide_true, decide_false, bi_T, bi_F, bi_0, bi_1, bi_z, bft, n10, n01, Nat.reduceEqDiff, Nat.reduceLT, Nat.reduceAdd, Nat.reduceMul, reduceCtorEq]
          exact ih c hc hcb
  exact key b (by omega) b hb64 hb.1
noncomputable def rowB (fu a : Nat) (M : List (Nat × Nat)) (lk : Option Nat) (b : Nat) : Nat := fb_ct (fun k => bP (gd3 fu a b (LM M k) ∧ ∀ c, lk = some c → (LM M k).testBit c = false)) M.length
noncomputable def cntB (fu a cell : Nat) (L M : List (Nat × Nat)) (lk : Option Nat) (n : Nat) : Nat := fb_sm (fun i => if (LM L i).testBit cell then rowB fu a M lk (LM L i) else 0) n
def gdB (fu a cell : Nat) (L M : List (Nat × Nat)) (lk : Option Nat) (i k : Nat) : Prop := (LM L i).testBit cell = true ∧ k < M.length ∧ gd3 fu a (LM L i) (LM M k) ∧ ∀ c, lk = some c → (LM M k).testBit c = false
theorem c_countBeside (hg : Geo g) {p r a cell x0 y0 fu : Nat} {tn : Bool} {L M : List (Nat × Nat)} (hP : PO g p) (hI : PI p L I J) (hok : mOk L) (hn : L.length ≤ 1632) (hR : PO g r) (hI2 : PI r M I J) (hok2 : mOk M) (hn2 : M.length ≤ 1632) (hMf : ∀ i, i < M.length → sbs (LM M i) fu) (ha : a < 2 ^ 64) (hfu : fu < 2 ^ 64) (h50 : J 50 1 = lN fu) (hc : cell < 64) (hx : x0 ≤ 1632) (hy : y0 ≤ 1632) (h11 : I 49 11 = nI x0) (h12 : I 49 12 = nI y0) (hQ : ∀ I' x y, Xb I I' → x ≤ 1632 → y ≤ 1632 → I' 49 11 = nI x → I' 49 12 = nI y → ((x = x0 ∧ y = y0) ∨ ∃ i k, i < L.length ∧ gdB fu a cell L M (if tn then some cell else none) i k ∧ swp tn i k = (x, y)) → lexle x y x0 y0 → (∀ i k, i < L.length → gdB fu a cell L M (if tn then some cell else none) i k → lexle x y (swp tn i k).1 (swp tn i k).2) → Q (some (.long (lN (cntB fu a cell L M (if tn then some cell else none) L.length)))) (g, I', J)) : a_call aTab aMX (d + 4) m_Maker_countBeside [.ref 49, .ref p, .ref r, .long (lN a), .int (nI cell), .int (bi tn)] (g, I, J) Q := by
  have hPP := hP
  have hRR := hR
  obtain ⟨p0, k0, ⟨r3, k3, n3⟩, -⟩ := hP
  have p0' := hR.1
  obtain ⟨lk, elk⟩ : ∃ lk : Option Nat, lk = (if tn then some cell else none) := ⟨_, rfl⟩
  rw [← elk] at hQ
  have hlk : ∀ c, lk = some c → c < 64 := by
    intro c h
    rw [elk] at h
    cases tn
    · cases h
    · cases h; exact hc
  rw [e_Maker_countBeside, b_Maker_countBeside_0]
  refine dn (P := fun i => ∀ I2 x y, Xb I I2 → x ≤ 1632 → y ≤ 1632 → I2 49 11 = nI x → I2 49 12 = nI y → ((x = x0 ∧ y = y0) ∨ ∃ i k, i < L.length ∧ gdB fu a cell L M lk i k ∧ swp tn i k = (x, y)) → lexle x y x0 y0 → (∀ i', i' < i → ∀ k, gdB fu a cell L M lk i' k → lexle x y (swp tn i' k).1 (swp tn i' k).2) → ∀ v10 v12 v14, a_wp aTab aMX (d + 3) m_Maker_countBeside 6 [.ref 49, .ref p, .ref r, .long (lN a), aU, .int (nI cell), .int (bi tn), .long (lN (cntB fu a cell L M lk i)), aU, .int (nI i), v10, aU, v12, aU, v14, aU] [] (g, I2, J) Q) (n := L.length) ?_ ?_ 0 (by omega) I x0 y0 (fun _ _ _ => rfl) hx hy h11 h12 (Or.inl ⟨rfl, rfl⟩) (Or.inr ⟨rfl, Nat.le_refl _⟩) (fun i' h => absurd h (by omega)) _ _ _
  · intro I2 x y hX w1 w2 e11 e12 c1 c2 c3 v10 v12 v14
    have P2 := PI_x p0 (Xb_M hX) (XJ_r J) hI
    simp (disch := omega) only [b_Maker_countBeside_6, b_Maker_countBeside_152, ↓reduceIte, nadd, nmul, nsub, nlt, neq, ncl, nvi, ndiv, nrem, exI, exJ, exV, eq_self, true_and, and_true, true_or, or_true, if_true, if_false, not_true, not_false_eq_true, false_and, and_false, decide_true, decide_false, bi_T, bi_F, bi_0, bi_1, bi_z, bft, n10, n01, Nat.reduceEqDiff, Nat.reduceLT, Nat.reduceAdd, Nat.reduceMul, reduceCtorEq, k0, P2.1, Nat.lt_irrefl]
    exact hQ I2 x y hX w1 w2 e11 e12 c1 c2 (fun i k hi hg => c3 i hi k hg)
  · intro i hi ih I2 x y hX w1 w2 e11 e12 c1 c2 c3 v10 v12 v14
    have P2 := PI_x p0 (Xb_M hX) (XJ_r J) hI
    have R2 := PI_x p0' (Xb_M hX) (XJ_r J) hI2
    have q : i < 1632 := by omega
    have hb := hok i hi
    have hab : a ||| LM L i < 2 ^ 64 := Nat.or_lt_two_pow ha hb
    have es : cntB fu a cell L M lk (i + 1) = cntB fu a cell L M lk i + (if (LM L i).testBit cell then rowB fu a M lk (LM L i) else 0) := rfl
    -- no pair here
    have skip : (∀ k, ¬ gdB fu a cell L M lk i k) → (if (LM L i).testBit cell then rowB fu a M lk (LM L i) else 0) = 0 → ∀ I3, Xb I I3 → I3 49 11 = nI x → I3 49 12 = nI y → ∀ v10 v12 v14, a_wp aTab aMX (d + 3) m_Maker_countBeside 146 [.ref 49, .ref p, .ref r, .long (lN a), aU, .int (nI cell), .int (bi tn), .long (lN (cntB fu a cell L M lk i)), aU, .int (nI i), v10, aU, v12, aU, v14, aU] [] (g, I3, J) Q := by
      intro hno hz I3 hX3 f11 f12 v10 v12 v14
      rw [hz] at es
      have es : cntB fu a cell L M lk (i + 1) = cntB fu a cell L M lk i := es
      rw [b_Maker_countBeside_146, nadd, ← es]
      refine ih I3 x y hX3 w1 w2 f11 f12 c1 c2 (fun i' h1 k hgk => ?_) _ _ _
      by_cases z : i' = i
      · rw [z] at hgk; exact absurd hgk (hno k)
      · exact c3 i' (by omega) k hgk
    rw [b_Maker_countBeside_6]
    simp (disch := omega) only [b_Maker_countBeside_15 hg, ↓reduceIte, nadd, nmul, nsub, nlt, neq, ncl, nvi, ndiv, nrem, exI, exJ, exV, eq_self, true_and, and_true, true_or, or_true, if_true, if_false, not_true, not_false_eq_true, false_and, and_false, decide_true, decide_false, bi_T, bi_F, bi_0, bi_1, bi_z, bft, n10, n01, Nat.reduceEqDiff, Nat.reduceLT, Nat.reduceAdd, Nat.reduceMul, reduceCtorEq, k0, P2.1, hi, r3, k3, n3, q, (P2.2.2.2.1 i hi).1, XJ_r J 50 1, h50, lbit hb, lb0, fb_orL, ldif]
    cases qb : (LM L i).testBit cell
    · simp only [exI, exJ, exV, eq_self, true_and, and_true, true_or, or_true, if_true, if_false, not_true, not_false_eq_true, false_and, and_false, decide_true, decide_false, bi_T, bi_F, bi_0, bi_1, bi_z, bft, n10, n01, Nat.reduceEqDiff, Nat.reduceLT, Nat.reduceAdd, Nat.reduceMul, reduceCtorEq]
      exact skip (fun k w => by rw [w.1] at qb; cases qb) (by rw [qb]; rfl) I2 hX e11 e12 _ _ _
    simp only [exI, exJ, exV, eq_self, true_and, and_true, true_or, or_true, if_true, if_false, not_true, not_false_eq_true, false_and, and_false, decide_true, decide_false, bi_T, bi_F, bi_0, bi_1, bi_z, bft, n10, n01, Nat.reduceEqDiff, Nat.reduceLT, Nat.reduceAdd, Nat.reduceMul, reduceCtorEq]
    rw [b_Maker_countBeside_54]
    by_cases qo : sbs fu (a ||| LM L i)
    · rw [if_pos (by rw [dif0 hfu]; exact qo), b_Maker_countBeside_61]
      refine skip (fun k w => gd3_no qo (hMf k w.2.1) w.2.2.1) ?_ I2 hX e11 e12 _ _ _
      rw [qb, if_pos rfl]
      exact fb_ct_zero.2 (fun k hk => bP_f.2 (fun w => gd3_no qo (hMf k hk) w.1))
    rw [if_neg (by rw [dif0 hfu]; exact qo), b_Maker_countBeside_64]
    have call : a_wp aTab aMX (d + 3) m_Maker_countBeside 95 [.ref 49, .ref p, .ref r, .long (lN a), aU, .int (nI cell), .int (bi tn), .long (lN (cntB fu a cell L M lk i)), aU, .int (nI i), aU, aU, aU, aU, aU, aU] [.int (lkI lk), .long (lN (dif (LM L i) a)), .long (lN (dif a (LM L i))), .long (lN (dif fu (a ||| LM L i))), .ref r, .ref 49] (g, I2, J) Q := by
      rw [b_Maker_countBeside_95 hg]
      refine c_countFilling hg hRR R2 hok2 hn2 (dif_lt hfu) (dif_lt ha) (dif_lt hb) hlk ?_
      intro I3 hX3 hFI
      have ect : fb_ct (fits (LM M) (dif fu (a ||| LM L i)) (dif a (LM L i)) (dif (LM L i) a) lk) M.length = rowB fu a M lk (LM L i) := fb_ct_cong (fun k hk => fit3 hfu ha hb qo)
      have hFI := FI_c (q := fun k => bP (gd3 fu a (LM L i) (LM M k) ∧ ∀ c, lk = some c → (LM M k).testBit c = false)) (fun k hk => fit3 hfu ha hb qo) hFI
      rw [ect]
      have hC : rowB fu a M lk (LM L i) ≤ 1632 := Nat.le_trans (fb_ct_le _ _) hn2
      have hXX : Xb I I3 := Xb_t hX (Xk_b hX3)
      have f11 : I3 49 11 = nI x := by rw [hX3 49 11 (by omega)]; exact e11
      have f12 : I3 49 12 = nI y := by rw [hX3 49 12 (by omega)]; exact e12
      simp only [exJ]
      rw [b_Maker_countBeside_98]
      by_cases qC : rowB fu a M lk (LM L i) = 0
      · rw [if_neg (by rw [qC]; decide)]
        refine skip (fun k w => ?_) (by rw [qb, if_pos rfl]; exact qC) I3 hXX f11 f12 _ _ _
        have := fb_ct_zero.1 qC k w.2.1
        exact (bP_f.1 this) w.2.2
      rw [if_pos ((lN_lt (by decide) (by omega)).2 (by omega))]
      obtain ⟨k, kl, kg, kf, kv⟩ := hFI qC
      have kg' : gdB fu a cell L M lk i k := ⟨qb, kl, (bP_t.1 kg).1, (bP_t.1 kg).2⟩
      have kf' : ∀ k', gdB fu a cell L M lk i k' → k ≤ k' := by
        intro k' w
        by_cases z : k' < k
        · exact absurd w.2.2 (bP_f.1 (kf k' z))
        · omega
      rw [qb, if_pos rfl] at es
      have fin : a_wp aTab aMX (d + 3) m_Maker_countBeside 143 [.ref 49, .ref p, .ref r, .long (lN a), aU, .int (nI cell), .int (bi tn), .long (lN (cntB fu a cell L M lk (i + 1))), aU, .int (nI i), aU, aU, aU, aU, aU, aU] [.int (nI (swp tn i k).2), .int (nI (swp tn i k).1), .ref 49] (g, I3, J) Q := by
        have hs1 : (swp tn i k).1 ≤ 1632 ∧ (swp tn i k).2 ≤ 1632 := by
          cases tn
          · exact ⟨by show i ≤ 1632; omega, by show k ≤ 1632; omega⟩
          · exact ⟨by show k ≤ 1632; omega, by show i ≤ 1632; omega⟩
        have low : ∀ k', gdB fu a cell L M lk i k' → lexle (swp tn i k).1 (swp tn i k).2 (swp tn i k').1 (swp tn i k').2 := by
          intro k' w
          have := kf' k' w
          cases tn
          · exact Or.inr ⟨rfl, this⟩
          · show k < k' ∨ (k = k' ∧ i ≤ i)
            omega
        obtain ⟨X, hXe⟩ : ∃ X, X = (swp tn i k).1 := ⟨_, rfl⟩
        obtain ⟨Y, hYe⟩ : ∃ Y, Y = (swp tn i k).2 := ⟨_, rfl⟩
        have hXY : swp tn i k = (X, Y) := by rw [hXe, hYe]
        rw [← hXe, ← hYe] at hs1 low ⊢
        rw [b_Maker_countBeside_143 hg]
        refine c_keepFirst hg (by omega) (by omega) (show x < 2147483648 by omega) (show y < 2147483648 by omega) f11 f12 ?_ ?_
        · intro hle
          simp only [exV, true_and]
          rw [b_Maker_countBeside_146, nadd]
          refine ih _ X Y ?_ hs1.1 hs1.2 (by rw [u2_k (by decide), u2_s]) u2_s (Or.inr ⟨i, k, hi, kg', hXY⟩) ?_ ?_ _ _ _
          · intro b j h1
            rw [show u2 (u2 I3 49 11 (nI X)) 49 12 (nI Y) b j = u2 I3 49 11 (nI X) b j from if_neg (by omega), show u2 I3 49 11 (nI X) b j = I3 b j from if_neg (by omega)]
            exact hXX b j h1
          · unfold lexle at hle c2 ⊢
            omega
          · intro i' h1 k' w
            by_cases z : i' = i
            · rw [z] at w ⊢; exact low k' w
            · have := c3 i' (by omega) k' w
              unfold lexle at this hle ⊢
              omega
        · intro hle
          simp only [exV, true_and]
          rw [b_Maker_countBeside_146, nadd]
          refine ih I3 x y hXX w1 w2 f11 f12 c1 c2 ?_ _ _ _
          intro i' h1 k' w
          by_cases z : i' = i
          · rw [z] at w ⊢
            have := low k' w
            unfold lexle at this hle ⊢
            omega
          · exact c3 i' (by omega) k' w
      rw [b_Maker_countBeside_107, lN_add, ← es]
      cases etn : tn
      · rw [etn] at fin
        have fin : a_wp aTab aMX (d + 3) m_Maker_countBeside 143 [.ref 49, .ref p, .ref r, .long (lN a), aU, .int (nI cell), .int (bi false), .long (lN (cntB fu a cell L M lk (i + 1))), aU, .int (nI i), aU, aU, aU, aU, aU, aU] [.int (nI k), .int (nI i), .ref 49] (g, I3, J) Q := fin
        simp (disch := omega) only [b_Maker_countBeside_127, b_Maker_countBeside_129, b_Maker_countBeside_139 hg, ↓reduceIte, nadd, nmul, nsub, nlt, neq, ncl, nvi, ndiv, nrem, exI, exJ, exV, eq_self, true_and, and_true, true_or, or_true, if_true, if_false, not_true, not_false_eq_true, false_and, and_false, decide_true, decide_false, bi_T, bi_F, bi_0, bi_1, bi_z, bft, n10, n01, Nat.reduceEqDiff, Nat.reduceLT, Nat.reduceAdd, Nat.reduceMul, reduceCtorEq, kv]
        exact fin
      · rw [etn] at fin
        have fin : a_wp aTab aMX (d + 3) m_Maker_countBeside 143 [.ref 49, .ref p, .ref r, .long (lN a), aU, .int (nI cell), .int (bi true), .long (lN (cntB fu a cell L M lk (i + 1))), aU, .int (nI i), aU, aU, aU, aU, aU, aU] [.int (nI i), .int (nI k), .ref 49] (g, I3, J) Q := fin
        simp (disch := omega) only [b_Maker_countBeside_120 hg, b_Maker_countBeside_129, b_Maker_countBeside_134, ↓reduceIte, nadd, nmul, nsub, nlt, neq, ncl, nvi, ndiv, nrem, exI, exJ, exV, eq_self, true_and, and_true, true_or, or_true, if_true, if_false, not_true, not_false_eq_true, false_and, and_false, decide_true, decide_false, bi_T, bi_F, bi_0, bi_1, bi_z, bft, n10, n01, Nat.reduceEqDiff, Nat.reduceLT, Nat.reduceAdd, Nat.reduceMul, reduceCtorEq, kv]
        exact fin
    cases etn : tn
    · rw [etn] at elk call
      rw [elk, show lkI (if false = true then some cell else none) = (-1 : Int32) from rfl] at call
      rw [if_pos (show bi false = nI 0 from rfl), b_Maker_countBeside_94]
      simp only [ldif]
      rw [elk]
      exact call
    · rw [etn] at elk call
      rw [elk, show lkI (if true = true then some cell else none) = nI cell from rfl] at call
      rw [if_neg (by decide), b_Maker_countBeside_89]
      simp only [ldif]
      rw [elk]
      exact call
end BSD
