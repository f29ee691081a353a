/-! ===== ways to make the sheet: one, two figures ===== -/
def XM (I I' : Nat → Nat → Int32) : Prop := ∀ a k, a ≠ 85 → ¬ (a = 49 ∧ (k = 0 ∨ k = 10 ∨ k = 11 ∨ k = 12 ∨ k = 13)) → I' a k = I a k
def XJ (J J' : Nat → Nat → Int64) : Prop := ∀ a k, ¬ (a = 49 ∧ k = 9) → J' a k = J a k
theorem XM_a {I I' : Nat → Nat → Int32} (h : XM I I') {a : Nat} (h1 : a ≠ 85) (h2 : a ≠ 49) : I' a = I a := funext (fun k => h a k h1 (by omega))
theorem XJ_a {J J' : Nat → Nat → Int64} (h : XJ J J') {a : Nat} (h2 : a ≠ 49) : J' a = J a := funext (fun k => h a k (by omega))
theorem XM_r (I : Nat → Nat → Int32) : XM I I := fun _ _ _ _ => rfl
theorem XJ_r (J : Nat → Nat → Int64) : XJ J J := fun _ _ _ => rfl
theorem XM_t {I I' I2 : Nat → Nat → Int32} (h1 : XM I I') (h2 : XM I' I2) : XM I I2 := fun a k h3 h4 => (h2 a k h3 h4).trans (h1 a k h3 h4)
theorem XJ_t {J J' J2 : Nat → Nat → Int64} (h1 : XJ J J') (h2 : XJ J' J2) : XJ J J2 := fun a k h4 => (h2 a k h4).trans (h1 a k h4)
theorem XM_u {I I' : Nat → Nat → Int32} (h : XM I I') {a k : Nat} {v : Int32} (h1 : a = 85 ∨ (a = 49 ∧ (k = 0 ∨ k = 10 ∨ k = 11 ∨ k = 12 ∨ k = 13))) : XM I (u2 I' a k v) := by
  intro b j h3 h4
  rw [show u2 I' a k v b j = I' b j from if_neg (by rintro ⟨rfl, rfl⟩; exact h1.elim h3 h4)]
  exact h b j h3 h4
theorem XJ_u {J J' : Nat → Nat → Int64} (h : XJ J J') {v : Int64} : XJ J (u2 J' 49 9 v) := by
  intro b j h4
  rw [show u2 J' 49 9 v b j = J' b j from if_neg h4]
  exact h b j h4
theorem PI_x {p : Nat} {L : List (Nat × Nat)} {I I' : Nat → Nat → Int32} {J J' : Nat → Nat → Int64} (hp : 123 ≤ p) (h1 : XM I I') (h2 : XJ J J') (h : PI p L I J) : PI p L I' J' := by
  have e : ∀ a, 123 ≤ a → I' a = I a := fun a ha => XM_a h1 (by omega) (by omega)
  have e2 : ∀ a, 123 ≤ a → J' a = J a := fun a ha => XJ_a h2 (by omega)
  unfold PI at h ⊢
  rw [e p hp, e2 p hp, e2 (p + 1) (by omega), e (p + 2) (by omega), e2 (p + 3) (by omega), e (p + 4) (by omega), e (p + 5) (by omega), e (p + 6) (by omega)]
  exact h
def BT (I : Nat → Nat → Int32) (z : Nat) : Prop := I 49 0 = (-1 : Int32) ∨ nI z < I 49 0
def RES (fd : Prop) (fw : (Nat → Int32) → Prop) (I I2 : Nat → Nat → Int32) (z s : Nat) : Prop := ((fd ∧ BT I z) → I2 49 0 = nI z ∧ I2 49 10 = nI s ∧ fw (I2 85)) ∧ (¬ (fd ∧ BT I z) → I2 49 0 = I 49 0 ∧ I2 49 10 = I 49 10 ∧ I2 85 = I 85)
theorem nI_m1 {n : Nat} (h : n < 2147483648) : ¬ nI n = (-1 : Int32) := by
  intro z
  have h1 := b_m1 31 (by omega)
  rw [← z, bt_nI (by omega), Nat.testBit_lt_two_pow (show n < 2 ^ 31 from h)] at h1
  cases h1
theorem RES_fd {fd : Prop} {fw : (Nat → Int32) → Prop} {I I2 : Nat → Nat → Int32} {z s : Nat} (hz : z < 2147483648) (h : RES fd fw I I2 z s) (hf : fd) : ¬ BT I2 z := by
  by_cases q : BT I z
  · have e := (h.1 ⟨hf, q⟩).1
    rintro (w | w)
    · rw [e] at w; exact nI_m1 hz w
    · rw [e, nlt hz hz] at w; omega
  · have e := (h.2 (fun w => q w.2)).1
    unfold BT at q ⊢
    rw [e]
    exact q
theorem RES_nf {fd : Prop} {fw : (Nat → Int32) → Prop} {I I2 : Nat → Nat → Int32} {z s : Nat} (h : RES fd fw I I2 z s) (hf : ¬ fd) : BT I2 z ↔ BT I z := by
  have e := (h.2 (fun w => hf w.1)).1
  unfold BT
  rw [e]
theorem RES_m {fd fd' : Prop} {fw fw' : (Nat → Int32) → Prop} {I I2 : Nat → Nat → Int32} {z s : Nat} (h : RES fd fw I I2 z s) (hf : fd ↔ fd') (hw : ∀ X, fw X → fw' X) : RES fd' fw' I I2 z s := by
  refine ⟨fun w => ?_, fun w => ?_⟩
  · obtain ⟨h1, h2, h3⟩ := h.1 ⟨hf.2 w.1, w.2⟩
    exact ⟨h1, h2, hw _ h3⟩
  · exact h.2 (fun y => w ⟨hf.1 y.1, y.2⟩)
def gd2 (fu a b : Nat) : Prop := (∀ i, fu.testBit i = true → a.testBit i = true ∨ b.testBit i = true) ∧ ¬ sbs a b ∧ ¬ sbs b a
def gd3 (fu a b c : Nat) : Prop := (∀ i, fu.testBit i = true → a.testBit i = true ∨ b.testBit i = true ∨ c.testBit i = true) ∧ ¬ sbs a (b ||| c) ∧ ¬ sbs b (a ||| c) ∧ ¬ sbs c (a ||| b)
noncomputable def bP (P : Prop) : Bool := @decide P (Classical.propDecidable _)
theorem bP_t {P : Prop} : bP P = true ↔ P := @decide_eq_true_iff _ (Classical.propDecidable _)
theorem bP_f {P : Prop} : bP P = false ↔ ¬ P := @decide_eq_false_iff_not _ (Classical.propDecidable _)
theorem bP_c {P P' : Prop} (h : P ↔ P') : bP P = bP P' := by rw [propext h]
noncomputable def ct1 (fu : Nat) (A : Nat → Nat) (n : Nat) : Nat := fb_ct (fun i => decide (A i = fu)) n
noncomputable def ct2 (fu : Nat) (A B : Nat → Nat) (n m : Nat) : Nat := fb_sm (fun i => fb_ct (fun j => bP (gd2 fu (A i) (B j))) m) n
def fw1 (fu : Nat) (A : Nat → Nat) (n i : Nat) : Prop := i < n ∧ A i = fu ∧ ∀ i', i' < i → A i' ≠ fu
def fw2 (fu : Nat) (A B : Nat → Nat) (n m i j : Nat) : Prop := i < n ∧ j < m ∧ gd2 fu (A i) (B j) ∧ (∀ i', i' < i → ∀ j', j' < m → ¬ gd2 fu (A i') (B j')) ∧ ∀ j', j' < j → ¬ gd2 fu (A i) (B j')
theorem FI_c {p q : Nat → Bool} {n : Nat} {v : Int32} (h : ∀ i, i < n → p i = q i) (hF : FI p n v) : FI q n v := by
  intro hz
  rw [← fb_ct_cong h] at hz
  obtain ⟨a, h1, h2, h3, h4⟩ := hF hz
  exact ⟨a, h1, (h a h1).symm.trans h2, fun j hj => (h j (by omega)).symm.trans (h3 j hj), h4⟩
section TRY
variable {d : Nat} {g : aG} {I : Nat → Nat → Int32} {J : Nat → Nat → Int64} {Q : aQ}
theorem c_isBetter (hg : Geo g) {s z : Nat} (hs : pcI (nI s) = z) (hQ1 : BT I z → Q (some (.int (nI 1))) (g, I, J)) (hQ0 : ¬ BT I z → Q (some (.int (nI 0))) (g, I, J)) : a_call aTab aMX (d + 2) m_Maker_isBetter [.ref 49, .int (nI s)] (g, I, J) Q := by
  rw [e_Maker_isBetter, b_Maker_isBetter_0 hg]
  by_cases q : I 49 0 = (-1 : Int32)
  · rw [if_pos q]
    simp (disch := omega) only [b_Maker_isBetter_19, b_Maker_isBetter_24, ↓reduceIte, nadd, nmul, nsub, nlt, neq, ncl, nvi, ndiv, nrem, exI, exJ, exV, eq_self, true_and, and_true, true_or, or_true, if_true, if_false, not_true, not_false_eq_true, false_and, and_false, decide_true, decide_false, bi_T, bi_F, bi_0, bi_1, bi_z, bft, n10, n01, Nat.reduceEqDiff, Nat.reduceLT, Nat.reduceAdd, Nat.reduceMul, reduceCtorEq]
    exact hQ1 (Or.inl q)
  · rw [if_neg q]
    simp (disch := omega) only [b_Maker_isBetter_8, ↓reduceIte, nadd, nmul, nsub, nlt, neq, ncl, nvi, ndiv, nrem, exI, exJ, exV, eq_self, true_and, and_true, true_or, or_true, if_true, if_false, not_true, not_false_eq_true, false_and, and_false, decide_true, decide_false, bi_T, bi_F, bi_0, bi_1, bi_z, bft, n10, n01, Nat.reduceEqDiff, Nat.reduceLT, Nat.reduceAdd, Nat.reduceMul, reduceCtorEq, c_bitI, hs]
    rw [b_Maker_isBetter_12 hg]
    by_cases q2 : nI z < I 49 0
    · rw [if_pos q2]
      simp (disch := omega) only [b_Maker_isBetter_19, b_Maker_isBetter_24, ↓reduceIte, nadd, nmul, nsub, nlt, neq, ncl, nvi, ndiv, nrem, exI, exJ, exV, eq_self, true_and, and_true, true_or, or_true, if_true, if_false, not_true, not_false_eq_true, false_and, and_false, decide_true, decide_false, bi_T, bi_F, bi_0, bi_1, bi_z, bft, n10, n01, Nat.reduceEqDiff, Nat.reduceLT, Nat.reduceAdd, Nat.reduceMul, reduceCtorEq]
      exact hQ1 (Or.inr q2)
    · rw [if_neg q2]
      simp (disch := omega) only [b_Maker_isBetter_23, b_Maker_isBetter_24, ↓reduceIte, nadd, nmul, nsub, nlt, neq, ncl, nvi, ndiv, nrem, exI, exJ, exV, eq_self, true_and, and_true, true_or, or_true, if_true, if_false, not_true, not_false_eq_true, false_and, and_false, decide_true, decide_false, bi_T, bi_F, bi_0, bi_1, bi_z, bft, n10, n01, Nat.reduceEqDiff, Nat.reduceLT, Nat.reduceAdd, Nat.reduceMul, reduceCtorEq]
      exact hQ0 (fun w => w.elim q q2)
theorem c_choose (hg : Geo g) {s z : Nat} (hs : pcI (nI s) = z) : a_call aTab aMX (d + 2) m_Maker_choose [.ref 49, .int (nI s)] (g, I, J) Q = Q none (g, u2 (u2 I 49 10 (nI s)) 49 0 (nI z), J) := by
  rw [e_Maker_choose, b_Maker_choose_0 hg]
  simp (disch := omega) only [↓reduceIte, nadd, nmul, nsub, nlt, neq, ncl, nvi, ndiv, nrem, exI, exJ, exV, eq_self, true_and, and_true, true_or, or_true, if_true, if_false, not_true, not_false_eq_true, false_and, and_false, decide_true, decide_false, bi_T, bi_F, bi_0, bi_1, bi_z, bft, n10, n01, Nat.reduceEqDiff, Nat.reduceLT, Nat.reduceAdd, Nat.reduceMul, reduceCtorEq, c_bitI, hs]
  rw [b_Maker_choose_10 hg]
theorem c_trySingle (hg : Geo g) {p s z f W fu : Nat} {L : List (Nat × Nat)} (hP : PO g p) (hI : PI p L I J) (hok : mOk L) (hn : L.length ≤ 1632) (hs : pcI (nI s) = z) (hz : z ≤ 64) (hf : f < 6) (h86 : I 86 0 = nI f) (hfu : fu < 2 ^ 64) (h50 : J 50 1 = lN fu) (hW : J 49 9 = lN W) (hQ : ∀ I' J', XM I I' → XJ J J' → J' 49 9 = lN (W + ct1 fu (LM L) L.length) → RES (ct1 fu (LM L) L.length ≠ 0) (fun X => ∃ i, fw1 fu (LM L) L.length i ∧ X f = nI (LQ L i)) I I' z s → Q none (g, I', J')) : a_call aTab aMX (d + 3) m_Maker_trySingle [.ref 49, .int (nI s), .ref p] (g, I, J) Q := by
  have hPP := hP
  obtain ⟨p0, k0, ⟨r3, k3, n3⟩, ⟨r4, k4, n4⟩, -⟩ := hP
  rw [e_Maker_trySingle, b_Maker_trySingle_0]
  refine dn (P := fun i => ∀ I2 J2, XM I I2 → XJ J J2 → J2 49 9 = lN (W + ct1 fu (LM L) i) → RES (ct1 fu (LM L) i ≠ 0) (fun X => ∃ a, fw1 fu (LM L) i a ∧ X f = nI (LQ L a)) I I2 z s → a_wp aTab aMX (d + 2) m_Maker_trySingle 2 [.ref 49, .int (nI s), .ref p, .int (nI i)] [] (g, I2, J2) Q) (n := L.length) ?_ ?_ 0 (by omega) I J (XM_r I) (XJ_r J) hW ⟨fun w => absurd rfl w.1, fun _ => ⟨rfl, rfl, rfl⟩⟩
  · intro I2 J2 hM hJ h9 hR
    have P2 := PI_x p0 hM hJ hI
    simp (disch := omega) only [b_Maker_trySingle_2, b_Maker_trySingle_73, ↓reduceIte, nadd, nmul, nsub, nlt, neq, ncl, nvi, ndiv, nrem, exI, exJ, exV, eq_self, true_and, and_true, true_or, or_true, if_true, if_false, not_true, not_false_eq_true, false_and, and_false, decide_true, decide_false, bi_T, bi_F, bi_0, bi_1, bi_z, bft, n10, n01, Nat.reduceEqDiff, Nat.reduceLT, Nat.reduceAdd, Nat.reduceMul, reduceCtorEq, k0, P2.1, Nat.lt_irrefl]
    exact hQ I2 J2 hM hJ h9 hR
  · intro i hi ih I2 J2 hM hJ h9 hR
    have P2 := PI_x p0 hM hJ hI
    have e50 : J2 50 1 = lN fu := by rw [XJ_a hJ (by decide)]; exact h50
    have q : i < 1632 := by omega
    have es : ct1 fu (LM L) (i + 1) = ct1 fu (LM L) i + (if decide (LM L i = fu) = true then 1 else 0) := rfl
    rw [b_Maker_trySingle_2]
    simp (disch := omega) only [b_Maker_trySingle_10 hg, ↓reduceIte, nadd, nmul, nsub, nlt, neq, ncl, nvi, ndiv, nrem, exI, exJ, exV, eq_self, true_and, and_true, true_or, or_true, if_true, if_false, not_true, not_false_eq_true, false_and, and_false, decide_true, decide_false, bi_T, bi_F, bi_0, bi_1, bi_z, bft, n10, n01, Nat.reduceEqDiff, Nat.reduceLT, Nat.reduceAdd, Nat.reduceMul, reduceCtorEq, k0, P2.1, hi, r3, k3, n3, q, (P2.2.2.2.1 i hi).1, e50, lN64 (hok i hi) hfu]
    by_cases qe : LM L i = fu
    rotate_left
    · rw [if_neg qe, b_Maker_trySingle_67, nadd]
      rw [decide_eq_false qe, if_neg (by decide), Nat.add_zero] at es
      refine ih I2 J2 hM hJ (by rw [es]; exact h9) (RES_m hR (by omega) ?_)
      rintro X ⟨a, ⟨h1, h2, h3⟩, h4⟩
      exact ⟨a, ⟨by omega, h2, h3⟩, h4⟩
    · rw [decide_eq_true qe, if_pos rfl] at es
      rw [if_pos qe, b_Maker_trySingle_27 hg, h9, lN_add]
      have hJ3 : XJ J (u2 J2 49 9 (lN (W + ct1 fu (LM L) i + 1))) := XJ_u hJ
      have e9 : u2 J2 49 9 (lN (W + ct1 fu (LM L) i + 1)) 49 9 = lN (W + ct1 fu (LM L) (i + 1)) := by rw [u2_s, es, Nat.add_assoc]
      refine c_isBetter hg hs ?_ ?_
      · intro hb
        by_cases qc : ct1 fu (LM L) i ≠ 0
        · exact absurd hb (RES_fd (by omega) hR qc)
        have hb0 := (RES_nf hR qc).1 hb
        have e86 : u2 (u2 I2 49 10 (nI s)) 49 0 (nI z) 86 0 = nI f := by rw [u2_a (by decide), u2_a (by decide), XM_a hM (by decide) (by decide)]; exact h86
        have e4 : u2 (u2 I2 49 10 (nI s)) 49 0 (nI z) (p + 2) i = nI (LQ L i) := by rw [u2_a (by omega), u2_a (by omega)]; exact (P2.2.2.2.1 i hi).2
        simp (disch := omega) only [b_Maker_trySingle_42, b_Maker_trySingle_45 hg, ↓reduceIte, nadd, nmul, nsub, nlt, neq, ncl, nvi, ndiv, nrem, exI, exJ, exV, eq_self, true_and, and_true, true_or, or_true, if_true, if_false, not_true, not_false_eq_true, false_and, and_false, decide_true, decide_false, bi_T, bi_F, bi_0, bi_1, bi_z, bft, n10, n01, Nat.reduceEqDiff, Nat.reduceLT, Nat.reduceAdd, Nat.reduceMul, reduceCtorEq, c_choose hg hs]
        rw [b_Maker_trySingle_50 hg]
        simp (disch := omega) only [b_Maker_trySingle_67, ↓reduceIte, nadd, nmul, nsub, nlt, neq, ncl, nvi, ndiv, nrem, exI, exJ, exV, eq_self, true_and, and_true, true_or, or_true, if_true, if_false, not_true, not_false_eq_true, false_and, and_false, decide_true, decide_false, bi_T, bi_F, bi_0, bi_1, bi_z, bft, n10, n01, Nat.reduceEqDiff, Nat.reduceLT, Nat.reduceAdd, Nat.reduceMul, reduceCtorEq, k0, r4, k4, n4, q, e86, hf, e4]
        refine ih _ _ (XM_u (XM_u (XM_u hM (by omega)) (by omega)) (by omega)) hJ3 e9 ⟨fun _ => ⟨?_, ?_, i, ⟨by omega, qe, fun i' hi' => ?_⟩, ?_⟩, fun w => absurd ⟨by omega, hb0⟩ w⟩
        · rw [u2_a (by decide), u2_s]
        · rw [u2_a (by decide), u2_k (by decide), u2_s]
        · have z0 : ct1 fu (LM L) i = 0 := by omega
          exact of_decide_eq_false (fb_ct_zero.1 z0 i' hi')
        · rw [u2_s]
      · intro hb
        have step : RES (ct1 fu (LM L) (i + 1) ≠ 0) (fun X => ∃ a, fw1 fu (LM L) (i + 1) a ∧ X f = nI (LQ L a)) I I2 z s := by
          by_cases qc : ct1 fu (LM L) i ≠ 0
          · refine RES_m hR (by omega) ?_
            rintro X ⟨a, ⟨h1, h2, h3⟩, h4⟩
            exact ⟨a, ⟨by omega, h2, h3⟩, h4⟩
          · have hb0 : ¬ BT I z := fun w => hb ((RES_nf hR qc).2 w)
            exact ⟨fun w => absurd w.2 hb0, fun _ => hR.2 (fun w => hb0 w.2)⟩
        simp (disch := omega) only [b_Maker_trySingle_42, b_Maker_trySingle_67, ↓reduceIte, nadd, nmul, nsub, nlt, neq, ncl, nvi, ndiv, nrem, exI, exJ, exV, eq_self, true_and, and_true, true_or, or_true, if_true, if_false, not_true, not_false_eq_true, false_and, and_false, decide_true, decide_false, bi_T, bi_F, bi_0, bi_1, bi_z, bft, n10, n01, Nat.reduceEqDiff, Nat.reduceLT, Nat.reduceAdd, Nat.reduceMul, reduceCtorEq]
        exact ih I2 _ hM hJ3 e9 step
theorem ct2_z {fu n m : Nat} {A B : Nat → Nat} (h : ct2 fu A B n m = 0) : ∀ i, i < n → ∀ j, j < m → ¬ gd2 fu (A i) (B j) := by
  intro i hi j hj
  have h1 := fb_sm_zero h i hi
  have h2 := fb_ct_zero.1 h1 j hj
  exact bP_f.1 h2
theorem c_tryPair (hg : Geo g) {p r s z f f2 W fu : Nat} {L M : List (Nat × Nat)} (hP : PO g p) (hI : PI p L I J) (hok : mOk L) (hn : L.length ≤ 1632) (hR : PO g r) (hI2 : PI r M I J) (hok2 : mOk M) (hn2 : M.length ≤ 1632) (hLf : ∀ i, i < L.length → sbs (LM L i) fu) (hMf : ∀ i, i < M.length → sbs (LM M i) fu) (hs : pcI (nI s) = z) (hz : z ≤ 64) (hf : f < 6) (hf2 : f2 < 6) (hff : f ≠ f2) (h86 : I 86 0 = nI f) (h861 : I 86 1 = nI f2) (hfu : fu < 2 ^ 64) (h50 : J 50 1 = lN fu) (hW : J 49 9 = lN W) (hQ : ∀ I' J', XM I I' → XJ J J' → J' 49 9 = lN (W + ct2 fu (LM L) (LM M) L.length M.length) → RES (ct2 fu (LM L) (LM M) L.length M.length ≠ 0) (fun X => ∃ i j, fw2 fu (LM L) (LM M) L.length M.length i j ∧ X f = nI (LQ L i) ∧ X f2 = nI (LQ M j)) I I' z s → Q none (g, I', J')) : a_call aTab aMX (d + 4) m_Maker_tryPair [.ref 49, .int (nI s), .ref p, .ref r] (g, I, J) Q := by
  have hPP := hP
  have hRR := hR
  obtain ⟨p0, k0, ⟨r3, k3, n3⟩, ⟨r4, k4, n4⟩, -⟩ := hP
  obtain ⟨p0', k0', ⟨r3', k3', n3'⟩, ⟨r4', k4', n4'⟩, -⟩ := hR
  rw [e_Maker_tryPair, b_Maker_tryPair_0]
  refine dn (P := fun i => ∀ I2 J2, XM I I2 → XJ J J2 → J2 49 9 = lN (W + ct2 fu (LM L) (LM M) i M.length) → RES (ct2 fu (LM L) (LM M) i M.length ≠ 0) (fun X => ∃ a b, fw2 fu (LM L) (LM M) i M.length a b ∧ X f = nI (LQ L a) ∧ X f2 = nI (LQ M b)) I I2 z s → ∀ v5 v7 v9, a_wp aTab aMX (d + 3) m_Maker_tryPair 3 [.ref 49, .int (nI s), .ref p, .ref r, .int (nI i), v5, aU, v7, aU, v9, aU] [] (g, I2, J2) Q) (n := L.length) ?_ ?_ 0 (by omega) I J (XM_r I) (XJ_r J) hW ⟨fun w => absurd rfl w.1, fun _ => ⟨rfl, rfl, rfl⟩⟩ _ _ _
  · intro I2 J2 hM hJ h9 hRs v5 v7 v9
    have P2 := PI_x p0 hM hJ hI
    simp (disch := omega) only [b_Maker_tryPair_3, b_Maker_tryPair_136, ↓reduceIte, nadd, nmul, nsub, nlt, neq, ncl, nvi, ndiv, nrem, exI, exJ, exV, eq_self, true_and, and_true, true_or, or_true, if_true, if_false, not_true, not_false_eq_true, false_and, and_false, decide_true, decide_false, bi_T, bi_F, bi_0, bi_1, bi_z, bft, n10, n01, Nat.reduceEqDiff, Nat.reduceLT, Nat.reduceAdd, Nat.reduceMul, reduceCtorEq, k0, P2.1, Nat.lt_irrefl]
    exact hQ I2 J2 hM hJ h9 hRs
  · intro i hi ih I2 J2 hM hJ h9 hRs v5 v7 v9
    have P2 := PI_x p0 hM hJ hI
    have R2 := PI_x p0' hM hJ hI2
    have e50 : J2 50 1 = lN fu := by rw [XJ_a hJ (by decide)]; exact h50
    have q : i < 1632 := by omega
    have es : ct2 fu (LM L) (LM M) (i + 1) M.length = ct2 fu (LM L) (LM M) i M.length + fb_ct (fun j => bP (gd2 fu (LM L i) (LM M j))) M.length := rfl
    have hAi := hok i hi
    have mono : ∀ X : Nat → Int32, (∃ a b, fw2 fu (LM L) (LM M) i M.length a b ∧ X f = nI (LQ L a) ∧ X f2 = nI (LQ M b)) → ∃ a b, fw2 fu (LM L) (LM M) (i + 1) M.length a b ∧ X f = nI (LQ L a) ∧ X f2 = nI (LQ M b) := by
      rintro X ⟨a, b, ⟨h1, h2⟩, h4⟩
      exact ⟨a, b, ⟨by omega, h2⟩, h4⟩
    rw [b_Maker_tryPair_3]
    simp (disch := omega) only [b_Maker_tryPair_12 hg, ↓reduceIte, nadd, nmul, nsub, nlt, neq, ncl, nvi, ndiv, nrem, exI, exJ, exV, eq_self, true_and, and_true, true_or, or_true, if_true, if_false, not_true, not_false_eq_true, false_and, and_false, decide_true, decide_false, bi_T, bi_F, bi_0, bi_1, bi_z, bft, n10, n01, Nat.reduceEqDiff, Nat.reduceLT, Nat.reduceAdd, Nat.reduceMul, reduceCtorEq, k0, P2.1, hi, r3, k3, n3, q, (P2.2.2.2.1 i hi).1, e50, ldif]
    by_cases qr : sbs fu (LM L i)
    · rw [if_pos (by rw [dif0 hfu]; exact qr)]
      have e0 : fb_ct (fun j => bP (gd2 fu (LM L i) (LM M j))) M.length = 0 := fb_ct_zero.2 (fun j hj => bP_f.2 (fun w => w.2.2 (fun k hk => qr k (hMf j hj k hk))))
      rw [e0, Nat.add_zero] at es
      simp (disch := omega) only [b_Maker_tryPair_44, b_Maker_tryPair_130, ↓reduceIte, nadd, nmul, nsub, nlt, neq, ncl, nvi, ndiv, nrem, exI, exJ, exV, eq_self, true_and, and_true, true_or, or_true, if_true, if_false, not_true, not_false_eq_true, false_and, and_false, decide_true, decide_false, bi_T, bi_F, bi_0, bi_1, bi_z, bft, n10, n01, Nat.reduceEqDiff, Nat.reduceLT, Nat.reduceAdd, Nat.reduceMul, reduceCtorEq]
      exact ih I2 J2 hM hJ (by rw [es]; exact h9) (RES_m hRs (by omega) mono) _ _ _
    rw [if_neg (by rw [dif0 hfu]; exact qr), b_Maker_tryPair_47 hg, show (-1 : Int32) = lkI none from rfl]
    refine c_countFilling hg hRR R2 hok2 hn2 (dif_lt hfu) hAi hAi (fun c hc => by cases hc) ?_
    intro I3 hX hFI
    have eft : ∀ j, j < M.length → fits (LM M) (dif fu (LM L i)) (LM L i) (LM L i) none j = bP (gd2 fu (LM L i) (LM M j)) := by
      intro j hj
      refine Bool.eq_iff_iff.2 ?_
      rw [fits_t, bP_t]
      constructor
      · rintro ⟨h1, h2, -, -⟩
        refine ⟨fun k hk => ?_, h2, fun w => ?_⟩
        · cases z1 : (LM L i).testBit k
          · right
            exact h1 k (by rw [dif_bit hfu, hk, z1]; rfl)
          · left; rfl
        · apply qr
          intro k hk
          cases z1 : (LM L i).testBit k
          · have := w k (h1 k (by rw [dif_bit hfu, hk, z1]; rfl))
            rw [z1] at this
            exact this
          · rfl
      · rintro ⟨h1, h2, h3⟩
        refine ⟨fun k hk => ?_, h2, h2, fun c hc => by cases hc⟩
        rw [dif_bit hfu, Bool.and_eq_true] at hk
        rcases h1 k hk.1 with w | w
        · rw [w] at hk; cases hk.2
        · exact w
    have ect : fb_ct (fits (LM M) (dif fu (LM L i)) (LM L i) (LM L i) none) M.length = fb_ct (fun j => bP (gd2 fu (LM L i) (LM M j))) M.length := fb_ct_cong eft
    have hM3 : XM I I3 := XM_t hM (fun a k h1 h2 => hX a k (by omega))
    have eo : ∀ a k, ¬ (a = 49 ∧ k = 13) → I3 a k = I2 a k := hX
    have hFI := FI_c eft hFI
    rw [ect]
    obtain ⟨C, hC⟩ : ∃ C, C = fb_ct (fun j => bP (gd2 fu (LM L i) (LM M j))) M.length := ⟨_, rfl⟩
    have hCl : C ≤ 1632 := by rw [hC]; exact Nat.le_trans (fb_ct_le _ _) hn2
    rw [← hC] at es ⊢
    have hJ3 : XJ J (u2 J2 49 9 (lN (W + ct2 fu (LM L) (LM M) i M.length + C))) := XJ_u hJ
    have e9 : u2 J2 49 9 (lN (W + ct2 fu (LM L) (LM M) i M.length + C)) 49 9 = lN (W + ct2 fu (LM L) (LM M) (i + 1) M.length) := by rw [u2_s, es, Nat.add_assoc]
    have RS3 : RES (ct2 fu (LM L) (LM M) i M.length ≠ 0) (fun X => ∃ a b, fw2 fu (LM L) (LM M) i M.length a b ∧ X f = nI (LQ L a) ∧ X f2 = nI (LQ M b)) I I3 z s := by
      unfold RES at hRs ⊢
      rw [eo 49 0 (by omega), eo 49 10 (by omega), Xk_a hX (show 85 ≠ 49 by decide)]
      exact hRs
    simp only [exJ]
    rw [b_Maker_tryPair_59 hg, h9, lN_add]
    by_cases qC : C = 0
    · rw [if_neg (by rw [qC]; decide), b_Maker_tryPair_130, nadd]
      rw [qC, Nat.add_zero] at es
      exact ih I3 _ hM3 hJ3 e9 (RES_m RS3 (by omega) mono) _ _ _
    rw [if_pos ((lN_lt (by decide) (by omega)).2 (by omega)), b_Maker_tryPair_79 hg]
    refine c_isBetter hg hs ?_ ?_
    · intro hb
      by_cases qc : ct2 fu (LM L) (LM M) i M.length ≠ 0
      · exact absurd hb (RES_fd (by omega) RS3 qc)
      have hb0 := (RES_nf RS3 qc).1 hb
      obtain ⟨b, b1, b2, b3, b4⟩ := hFI (by rw [← hC]; exact qC)
      have P3 := PI_x p0 hM3 hJ hI
      have R3 := PI_x p0' hM3 hJ hI2
      have q2 : b < 1632 := by omega
      have e86 : u2 (u2 I3 49 10 (nI s)) 49 0 (nI z) 86 0 = nI f := by rw [u2_a (by decide), u2_a (by decide), XM_a hM3 (by decide) (by decide)]; exact h86
      have e4 : u2 (u2 I3 49 10 (nI s)) 49 0 (nI z) (p + 2) i = nI (LQ L i) := by rw [u2_a (by omega), u2_a (by omega)]; exact (P3.2.2.2.1 i hi).2
      have e13 : ∀ v, u2 (u2 (u2 I3 49 10 (nI s)) 49 0 (nI z)) 85 f v 49 13 = nI b := fun v => by rw [u2_a (by decide), u2_k (by decide), u2_k (by decide)]; exact b4
      have e861 : ∀ v, u2 (u2 (u2 I3 49 10 (nI s)) 49 0 (nI z)) 85 f v 86 1 = nI f2 := fun v => by rw [u2_a (by decide), u2_a (by decide), u2_a (by decide), XM_a hM3 (by decide) (by decide)]; exact h861
      have e42 : ∀ v, u2 (u2 (u2 I3 49 10 (nI s)) 49 0 (nI z)) 85 f v (r + 2) b = nI (LQ M b) := fun v => by rw [u2_a (by omega), u2_a (by omega), u2_a (by omega)]; exact (R3.2.2.2.1 b b1).2
      simp (disch := omega) only [b_Maker_tryPair_84, b_Maker_tryPair_87 hg, ↓reduceIte, nadd, nmul, nsub, nlt, neq, ncl, nvi, ndiv, nrem, exI, exJ, exV, eq_self, true_and, and_true, true_or, or_true, if_true, if_false, not_true, not_false_eq_true, false_and, and_false, decide_true, decide_false, bi_T, bi_F, bi_0, bi_1, bi_z, bft, n10, n01, Nat.reduceEqDiff, Nat.reduceLT, Nat.reduceAdd, Nat.reduceMul, reduceCtorEq, c_choose hg hs]
      rw [b_Maker_tryPair_92 hg]
      simp (disch := omega) only [b_Maker_tryPair_130, ↓reduceIte, nadd, nmul, nsub, nlt, neq, ncl, nvi, ndiv, nrem, exI, exJ, exV, eq_self, true_and, and_true, true_or, or_true, if_true, if_false, not_true, not_false_eq_true, false_and, and_false, decide_true, decide_false, bi_T, bi_F, bi_0, bi_1, bi_z, bft, n10, n01, Nat.reduceEqDiff, Nat.reduceLT, Nat.reduceAdd, Nat.reduceMul, reduceCtorEq, k0, r4, k4, n4, q, e86, hf, e4, k0', r4', k4', n4', e13, q2, e861, hf2, e42]
      refine ih _ _ (XM_u (XM_u (XM_u (XM_u hM3 (by omega)) (by omega)) (by omega)) (by omega)) hJ3 e9 ⟨fun _ => ⟨?_, ?_, i, b, ⟨by omega, b1, bP_t.1 b2, fun i' hi' => ?_, fun j' hj' => bP_f.1 (b3 j' hj')⟩, ?_, ?_⟩, fun w => absurd ⟨by omega, hb0⟩ w⟩ _ _ _
      · rw [u2_a (by decide), u2_a (by decide), u2_s]
      · rw [u2_a (by decide), u2_a (by decide), u2_k (by decide), u2_s]
      · have z0 : ct2 fu (LM L) (LM M) i M.length = 0 := by omega
        exact ct2_z z0 i' hi'
      · rw [u2_k hff, u2_s]
      · rw [u2_s]
    · intro hb
      have step : RES (ct2 fu (LM L) (LM M) (i + 1) M.length ≠ 0) (fun X => ∃ a b, fw2 fu (LM L) (LM M) (i + 1) M.length a b ∧ X f = nI (LQ L a) ∧ X f2 = nI (LQ M b)) I I3 z s := by
        by_cases qc : ct2 fu (LM L) (LM M) i M.length ≠ 0
        · exact RES_m RS3 (by omega) mono
        · have hb0 : ¬ BT I z := fun w => hb ((RES_nf RS3 qc).2 w)
          exact ⟨fun w => absurd w.2 hb0, fun _ => RS3.2 (fun w => hb0 w.2)⟩
      simp (disch := omega) only [b_Maker_tryPair_84, b_Maker_tryPair_130, ↓reduceIte, nadd, nmul, nsub, nlt, neq, ncl, nvi, ndiv, nrem, exI, exJ, exV, eq_self, true_and, and_true, true_or, or_true, if_true, if_false, not_true, not_false_eq_true, false_and, and_false, decide_true, decide_false, bi_T, bi_F, bi_0, bi_1, bi_z, bft, n10, n01, Nat.reduceEqDiff, Nat.reduceLT, Nat.reduceAdd, Nat.reduceMul, reduceCtorEq]
      exact ih I3 _ hM3 hJ3 e9 step _ _ _
end TRY
