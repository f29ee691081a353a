/-! ===== the class counts what fills ===== -/
def Xk (I I' : Nat → Nat → Int32) : Prop := ∀ a k, ¬ (a = 49 ∧ k = 13) → I' a k = I a k
theorem Xk_a {I I' : Nat → Nat → Int32} (h : Xk I I') {a : Nat} (ha : a ≠ 49) : I' a = I a := funext (fun k => h a k (by omega))
section CFI
variable {d : Nat} {g : aG} {I : Nat → Nat → Int32} {J : Nat → Nat → Int64} {Q : aQ}
theorem c_countFilling (hg : Geo g) {p : Nat} {L : List (Nat × Nat)} (hP : PO g p) (hI : PI p L I J) (hok : mOk L) (hn : L.length ≤ 1632) {op o1 o2 : Nat} (h0 : op < 2 ^ 64) (h1 : o1 < 2 ^ 64) (h2 : o2 < 2 ^ 64) {lk : Option Nat} (hlk : ∀ c, lk = some c → c < 64) (hQ : ∀ I', Xk I I' → FI (fits (LM L) op o1 o2 lk) L.length (I' 49 13) → Q (some (.long (lN (fb_ct (fits (LM L) op o1 o2 lk) L.length)))) (g, I', J)) : a_call aTab aMX (d + 3) m_Maker_countFilling [.ref 49, .ref p, .long (lN op), .long (lN o1), .long (lN o2), .int (lkI lk)] (g, I, J) Q := by
  obtain ⟨p0, k0, ⟨r3, k3, n3⟩, -, ⟨r5, k5, n5⟩, -, -, -⟩ := hP
  obtain ⟨i1, i2, i3, i4, i5, -, -, -⟩ := hI
  obtain ⟨n, en⟩ : ∃ n, n = L.length := ⟨_, rfl⟩
  obtain ⟨F, eF⟩ : ∃ F, F = LM L := ⟨_, rfl⟩
  have hF : ∀ i, i < n → F i < 2 ^ 64 := fun i hi => by rw [eF]; exact hok i (by omega)
  rw [← en, ← eF] at hQ i2 i3 i4 i5
  rw [← en] at hn i1
  clear en eF hok
  obtain ⟨ft, eft⟩ : ∃ ft, ft = fits F op o1 o2 lk := ⟨_, rfl⟩
  have ftT : ∀ i, ft i = true ↔ (sbs op (F i) ∧ ¬ sbs o1 (F i) ∧ ¬ sbs o2 (F i) ∧ ∀ c, lk = some c → (F i).testBit c = false) := fun i => by rw [eft]; exact fits_t
  rw [← eft] at hQ
  have none : (∀ i, i < n → ¬ sbs op (F i)) → Q (some (.long (lN 0))) (g, I, J) := by
    intro h
    have e : fb_ct ft n = 0 := fb_ct_zero.2 (fun i hi => by
      cases q : ft i
      · rfl
      · exact absurd ((ftT i).1 q).1 (h i hi))
    rw [e] at hQ
    exact hQ I (fun _ _ _ => rfl) (fun z => absurd e z)
  have hu := orU_lt n hF
  have hmx := mxU_le (F := F) n
  have hpc := pcN_le op
  have out : ∀ w, w ≤ 26 → ∀ I2, Xk I I2 → FI ft (min n (64 * w)) (I2 49 13) → ∀ v12 v14 v16 v17, a_wp aTab aMX (d + 2) m_Maker_countFilling 35 [.ref 49, .ref p, .long (lN op), aU, .long (lN o1), aU, .long (lN o2), aU, .int (lkI lk), .long (lN (fb_ct ft (min n (64 * w)))), aU, .int (nI w), v12, aU, v14, aU, v16, v17] [] (g, I2, J) Q := by
    have stop : ∀ w, n ≤ 64 * w → ∀ I2, Xk I I2 → FI ft (min n (64 * w)) (I2 49 13) → ∀ v11 v12 v14 v16 v17, a_wp aTab aMX (d + 2) m_Maker_countFilling 272 [.ref 49, .ref p, .long (lN op), aU, .long (lN o1), aU, .long (lN o2), aU, .int (lkI lk), .long (lN (fb_ct ft (min n (64 * w)))), aU, v11, v12, aU, v14, aU, v16, v17] [] (g, I2, J) Q := by
      intro w hw I2 hX hFI v11 v12 v14 v16 v17
      rw [show min n (64 * w) = n by omega] at hFI ⊢
      rw [b_Maker_countFilling_272]
      exact hQ I2 hX hFI
    refine dn ?_ ?_
    · intro I2 hX hFI v12 v14 v16 v17
      have e0 : I2 p 0 = nI n := by rw [Xk_a hX (by omega)]; exact i1
      have ew : nI 26 <<< (nI 6 &&& 31) = nI (64 * 26) := by rw [nshl (by omega), Nat.shiftLeft_eq]
      have q : ¬ 64 * 26 < n := by omega
      rw [b_Maker_countFilling_35, k0, e0, ew]
      simp (disch := omega) only [nlt, q, exI, exJ, exV, eq_self, true_and, and_true, true_or, or_true, if_true, if_false, not_true, not_false_eq_true, false_and, and_false, decide_true, decide_false, bi_T, bi_F, bi_0, bi_1, bi_z, bft, n10, n01, Nat.reduceEqDiff, Nat.reduceLT, Nat.reduceAdd, Nat.reduceMul, reduceCtorEq]
      exact stop 26 (by omega) I2 hX hFI _ _ _ _ _
    · intro w hw ih I2 hX hFI v12 v14 v16 v17
      have e0 : I2 p 0 = nI n := by rw [Xk_a hX (by omega)]; exact i1
      have ew : nI w <<< (nI 6 &&& 31) = nI (64 * w) := by rw [nshl (by omega), Nat.shiftLeft_eq, Nat.mul_comm]
      rw [b_Maker_countFilling_35, k0, e0, ew]
      by_cases q : 64 * w < n
      rotate_left
      · simp (disch := omega) only [nlt, q, exI, exJ, exV, eq_self, true_and, and_true, true_or, or_true, if_true, if_false, not_true, not_false_eq_true, false_and, and_false, decide_true, decide_false, bi_T, bi_F, bi_0, bi_1, bi_z, bft, n10, n01, Nat.reduceEqDiff, Nat.reduceLT, Nat.reduceAdd, Nat.reduceMul, reduceCtorEq]
        exact stop w (by omega) I2 hX hFI _ _ _ _ _
      simp (disch := omega) only [b_Maker_countFilling_47, ↓reduceIte, nadd, nmul, nsub, nlt, neq, ncl, nvi, ndiv, nrem, exI, exJ, exV, eq_self, true_and, and_true, true_or, or_true, if_true, if_false, not_true, not_false_eq_true, false_and, and_false, decide_true, decide_false, bi_T, bi_F, bi_0, bi_1, bi_z, bft, n10, n01, Nat.reduceEqDiff, Nat.reduceLT, Nat.reduceAdd, Nat.reduceMul, reduceCtorEq, q, hw]
      -- taking out
      have take : ∀ s, s < 2 ^ 64 → (∀ b, b < 64 → 64 * w + b < n → (s.testBit b = true ↔ ((∀ c, lk = some c → (F (64 * w + b)).testBit c = false) ∧ sbs op (F (64 * w + b))))) → ∀ k, k ≤ 64 → ∀ t I3, k ≤ t → t ≤ 64 → Xk I I3 → FI ft (min n (64 * w + t)) (I3 49 13) → ∀ v14 v17, a_wp aTab aMX (d + 2) m_Maker_countFilling 151 [.ref 49, .ref p, .long (lN op), aU, .long (lN o1), aU, .long (lN o2), aU, .int (lkI lk), .long (lN (fb_ct ft (min n (64 * w + t)))), aU, .int (nI w), .long (lN (rs s t)), aU, v14, aU, .int (nI k), v17] [] (g, I3, J) Q := by
        intro s hs hsp
        have nof : ∀ b, b < 64 → 64 * w + b < n → s.testBit b = false → ft (64 * w + b) = false := by
          intro b hb hbn h
          cases q2 : ft (64 * w + b)
          · rfl
          · have z := (ftT _).1 q2
            have := (hsp b hb hbn).2 ⟨z.2.2.2, z.1⟩
            rw [h] at this
            cases this
        have next : ∀ t I3, t ≤ 64 → rs s t = 0 → Xk I I3 → FI ft (min n (64 * w + t)) (I3 49 13) → ∀ v12 v14 v16 v17, a_wp aTab aMX (d + 2) m_Maker_countFilling 266 [.ref 49, .ref p, .long (lN op), aU, .long (lN o1), aU, .long (lN o2), aU, .int (lkI lk), .long (lN (fb_ct ft (min n (64 * w + t)))), aU, .int (nI w), v12, aU, v14, aU, v16, v17] [] (g, I3, J) Q := by
          intro t I3 ht hz hX3 hF3 v12 v14 v16 v17
          have gap : ∀ i, min n (64 * w + t) ≤ i → i < min n (64 * (w + 1)) → ft i = false := by
            intro i h3 h4
            have := nof (i - 64 * w) (by omega) (by omega) (rs_z hs hz _ (by omega))
            rwa [show 64 * w + (i - 64 * w) = i by omega] at this
          have e := ct_gap2 (show min n (64 * w + t) ≤ min n (64 * (w + 1)) by omega) gap
          have F4 := FI_gap (show min n (64 * w + t) ≤ min n (64 * (w + 1)) by omega) gap hF3
          rw [← e, b_Maker_countFilling_266, nadd]
          exact ih I3 hX3 F4 _ _ _ _
        refine dn ?_ ?_
        · intro t I3 h3 h4 hX3 hF3 v14 v17
          simp (disch := omega) only [b_Maker_countFilling_151, ↓reduceIte, nadd, nmul, nsub, nlt, neq, ncl, nvi, ndiv, nrem, exI, exJ, exV, eq_self, true_and, and_true, true_or, or_true, if_true, if_false, not_true, not_false_eq_true, false_and, and_false, decide_true, decide_false, bi_T, bi_F, bi_0, bi_1, bi_z, bft, n10, n01, Nat.reduceEqDiff, Nat.reduceLT, Nat.reduceAdd, Nat.reduceMul, reduceCtorEq, Nat.lt_irrefl]
          exact next t I3 h4 (rs_64 hs (by omega)) hX3 hF3 _ _ _ _
        · intro k hk ihk t I3 h3 h4 hX3 hF3 v14 v17
          have e3 : I3 p 0 = nI n := by rw [Xk_a hX3 (by omega)]; exact i1
          rw [b_Maker_countFilling_151]
          simp (disch := omega) only [b_Maker_countFilling_158, ↓reduceIte, nadd, nmul, nsub, nlt, neq, ncl, nvi, ndiv, nrem, exI, exJ, exV, eq_self, true_and, and_true, true_or, or_true, if_true, if_false, not_true, not_false_eq_true, false_and, and_false, decide_true, decide_false, bi_T, bi_F, bi_0, bi_1, bi_z, bft, n10, n01, Nat.reduceEqDiff, Nat.reduceLT, Nat.reduceAdd, Nat.reduceMul, reduceCtorEq, hk, lN64 (rs_lt s t) (Nat.two_pow_pos 64)]
          by_cases qz : rs s t = 0
          · rw [if_pos qz]
            exact next t I3 h4 qz hX3 hF3 _ _ _ _
          rw [if_neg qz]
          obtain ⟨b, hb⟩ := lw_ex qz
          obtain ⟨b1, b2, b3, b4⟩ := lw_rs hs hb
          have gap : ∀ i, min n (64 * w + t) ≤ i → i < min n (64 * w + b) → ft i = false := by
            intro i h5 h6
            have := nof (i - 64 * w) (by omega) (by omega) (b4 _ (by omega) (by omega))
            rwa [show 64 * w + (i - 64 * w) = i by omega] at this
          have e := ct_gap2 (show min n (64 * w + t) ≤ min n (64 * w + b) by omega) gap
          have F4 := FI_gap (show min n (64 * w + t) ≤ min n (64 * w + b) by omega) gap hF3
          simp (disch := omega) only [b_Maker_countFilling_165, ↓reduceIte, nadd, nmul, nsub, nlt, neq, ncl, nvi, ndiv, nrem, exI, exJ, exV, eq_self, true_and, and_true, true_or, or_true, if_true, if_false, not_true, not_false_eq_true, false_and, and_false, decide_true, decide_false, bi_T, bi_F, bi_0, bi_1, bi_z, bft, n10, n01, Nat.reduceEqDiff, Nat.reduceLT, Nat.reduceAdd, Nat.reduceMul, reduceCtorEq, ew, c_ntzL (rs_lt s t) hb.1 hb.2]
          rw [b_Maker_countFilling_175]
          simp (disch := omega) only [↓reduceIte, nadd, nmul, nsub, nlt, neq, ncl, nvi, ndiv, nrem, exI, exJ, exV, eq_self, true_and, and_true, true_or, or_true, if_true, if_false, not_true, not_false_eq_true, false_and, and_false, decide_true, decide_false, bi_T, bi_F, bi_0, bi_1, bi_z, bft, n10, n01, Nat.reduceEqDiff, Nat.reduceLT, Nat.reduceAdd, Nat.reduceMul, reduceCtorEq, k0, e3, rs_clr hs hb]
          by_cases qn : 64 * w + b < n
          rotate_left
          · rw [if_neg qn, b_Maker_countFilling_260, nadd, ← e]
            rw [show min n (64 * w + b) = min n (64 * w + (b + 1)) by omega] at F4 ⊢
            exact ihk (b + 1) I3 (by omega) (by omega) hX3 F4 _ _
          rw [if_pos qn]
          have sb := (hsp b b2 qn).1 b3
          rw [show min n (64 * w + b) = 64 * w + b by omega] at F4 e
          rw [← e]
          have em : J (p + 1) (64 * w + b) = lN (F (64 * w + b)) := (i4 _ qn).1
          have q16 : 64 * w + b < 1632 := by omega
          have skip : ft (64 * w + b) = false → ∀ v14 v17, a_wp aTab aMX (d + 2) m_Maker_countFilling 260 [.ref 49, .ref p, .long (lN op), aU, .long (lN o1), aU, .long (lN o2), aU, .int (lkI lk), .long (lN (fb_ct ft (64 * w + b))), aU, .int (nI w), .long (lN (rs s (b + 1))), aU, v14, aU, .int (nI k), v17] [] (g, I3, J) Q := by
            intro hnf v14 v17
            have e5 : fb_ct ft (64 * w + (b + 1)) = fb_ct ft (64 * w + b) := by
              rw [← Nat.add_assoc, fb_ct_succ, hnf]; rfl
            have F5 : FI ft (64 * w + (b + 1)) (I3 49 13) := FI_gap (by omega) (fun i h5 h6 => by rw [show i = 64 * w + b by omega]; exact hnf) F4
            rw [b_Maker_countFilling_260, nadd, ← e5]
            have := ihk (b + 1) I3 (by omega) (by omega) hX3
            rw [show min n (64 * w + (b + 1)) = 64 * w + (b + 1) by omega] at this
            exact this F5 _ _
          rw [b_Maker_countFilling_196]
          simp (disch := omega) only [↓reduceIte, nadd, nmul, nsub, nlt, neq, ncl, nvi, ndiv, nrem, exI, exJ, exV, eq_self, true_and, and_true, true_or, or_true, if_true, if_false, not_true, not_false_eq_true, false_and, and_false, decide_true, decide_false, bi_T, bi_F, bi_0, bi_1, bi_z, bft, n10, n01, Nat.reduceEqDiff, Nat.reduceLT, Nat.reduceAdd, Nat.reduceMul, reduceCtorEq, k0, r3, k3, n3, q16, em, ldif]
          by_cases s1 : sbs o1 (F (64 * w + b))
          · rw [if_pos (by rw [dif0 h1]; exact s1)]
            refine skip ?_ _ _
            cases z : ft (64 * w + b)
            · rfl
            · exact absurd s1 ((ftT _).1 z).2.1
          rw [if_neg (by rw [dif0 h1]; exact s1), b_Maker_countFilling_215]
          simp (disch := omega) only [↓reduceIte, nadd, nmul, nsub, nlt, neq, ncl, nvi, ndiv, nrem, exI, exJ, exV, eq_self, true_and, and_true, true_or, or_true, if_true, if_false, not_true, not_false_eq_true, false_and, and_false, decide_true, decide_false, bi_T, bi_F, bi_0, bi_1, bi_z, bft, n10, n01, Nat.reduceEqDiff, Nat.reduceLT, Nat.reduceAdd, Nat.reduceMul, reduceCtorEq, k0, r3, k3, n3, q16, em, ldif]
          by_cases s2 : sbs o2 (F (64 * w + b))
          · rw [if_pos (by rw [dif0 h2]; exact s2)]
            refine skip ?_ _ _
            cases z : ft (64 * w + b)
            · rfl
            · exact absurd s2 ((ftT _).1 z).2.2.1
          rw [if_neg (by rw [dif0 h2]; exact s2)]
          have hft : ft (64 * w + b) = true := (ftT _).2 ⟨sb.2, s1, s2, sb.1⟩
          have e5 : fb_ct ft (64 * w + (b + 1)) = fb_ct ft (64 * w + b) + 1 := by
            rw [← Nat.add_assoc, fb_ct_succ, hft]; rfl
          have F5 := FI_s hft F4
          have hle := fb_ct_le ft (64 * w + b)
          have go : ∀ v, v = (if fb_ct ft (64 * w + b) = 0 then nI (64 * w + b) else I3 49 13) → ∀ v14 v17, a_wp aTab aMX (d + 2) m_Maker_countFilling 260 [.ref 49, .ref p, .long (lN op), aU, .long (lN o1), aU, .long (lN o2), aU, .int (lkI lk), .long (lN (fb_ct ft (64 * w + b) + 1)), aU, .int (nI w), .long (lN (rs s (b + 1))), aU, v14, aU, .int (nI k), v17] [] (g, u2 I3 49 13 v, J) Q := by
            intro v hv v14 v17
            rw [b_Maker_countFilling_260, nadd, ← e5]
            have := ihk (b + 1) (u2 I3 49 13 v) (by omega) (by omega) (fun a k hak => by rw [show u2 I3 49 13 v a k = I3 a k from if_neg hak]; exact hX3 a k hak)
            rw [show min n (64 * w + (b + 1)) = 64 * w + (b + 1) by omega] at this
            refine this ?_ _ _
            rw [u2_s, hv]
            exact F5
          have i63 : fb_ct ft (64 * w + b) < 2 ^ 64 := Nat.lt_of_le_of_lt hle (Nat.lt_of_lt_of_le q16 (by decide))
          rw [b_Maker_countFilling_234]
          by_cases z : fb_ct ft (64 * w + b) = 0
          · rw [if_pos (by rw [z]), b_Maker_countFilling_242, b_Maker_countFilling_251 hg, lN_add]
            exact go _ (by rw [if_pos z]) _ _
          · rw [if_neg (by rw [lN64 i63 (Nat.two_pow_pos 64)]; exact z), b_Maker_countFilling_247 hg, b_Maker_countFilling_251 hg, lN_add]
            exact go _ (by rw [if_neg z]) _ _
      -- putting together
      have join : ∀ k, k ≤ 64 → ∀ t s, k ≤ t → s < 2 ^ 64 → (∀ b, b < 64 → 64 * w + b < n → (s.testBit b = true ↔ ((∀ c, lk = some c → (F (64 * w + b)).testBit c = false) ∧ ∀ i, i < t → op.testBit i = true → (F (64 * w + b)).testBit i = true))) → ∀ v17, a_wp aTab aMX (d + 2) m_Maker_countFilling 91 [.ref 49, .ref p, .long (lN op), aU, .long (lN o1), aU, .long (lN o2), aU, .int (lkI lk), .long (lN (fb_ct ft (min n (64 * w)))), aU, .int (nI w), .long (lN s), aU, .long (lN (rs op t)), aU, .int (nI k), v17] [] (g, I2, J) Q := by
        have done : ∀ s, s < 2 ^ 64 → (∀ b, b < 64 → 64 * w + b < n → (s.testBit b = true ↔ ((∀ c, lk = some c → (F (64 * w + b)).testBit c = false) ∧ sbs op (F (64 * w + b))))) → ∀ v14 v16 v17, a_wp aTab aMX (d + 2) m_Maker_countFilling 148 [.ref 49, .ref p, .long (lN op), aU, .long (lN o1), aU, .long (lN o2), aU, .int (lkI lk), .long (lN (fb_ct ft (min n (64 * w)))), aU, .int (nI w), .long (lN s), aU, v14, aU, v16, v17] [] (g, I2, J) Q := by
          intro s hs hsp v14 v16 v17
          rw [b_Maker_countFilling_148]
          have := take s hs hsp 0 (by omega) 0 I2 (by omega) (by omega) hX hFI
          rw [rs_0 hs] at this
          exact this _ _
        refine dn ?_ ?_
        · intro t s h3 hs hsp v17
          simp (disch := omega) only [b_Maker_countFilling_91, ↓reduceIte, nadd, nmul, nsub, nlt, neq, ncl, nvi, ndiv, nrem, exI, exJ, exV, eq_self, true_and, and_true, true_or, or_true, if_true, if_false, not_true, not_false_eq_true, false_and, and_false, decide_true, decide_false, bi_T, bi_F, bi_0, bi_1, bi_z, bft, n10, n01, Nat.reduceEqDiff, Nat.reduceLT, Nat.reduceAdd, Nat.reduceMul, reduceCtorEq, Nat.lt_irrefl]
          refine done s hs (fun b hb hbn => ?_) _ _ _
          rw [hsp b hb hbn]
          constructor
          · rintro ⟨y1, y2⟩
            refine ⟨y1, fun i hi => ?_⟩
            by_cases q3 : i < 64
            · exact y2 i (by omega) hi
            · rw [tb64 h0 (by omega)] at hi; cases hi
          · rintro ⟨y1, y2⟩
            exact ⟨y1, fun i _ hi => y2 i hi⟩
        · intro k hk ihk t s h3 hs hsp v17
          rw [b_Maker_countFilling_91]
          simp (disch := omega) only [b_Maker_countFilling_98, ↓reduceIte, nadd, nmul, nsub, nlt, neq, ncl, nvi, ndiv, nrem, exI, exJ, exV, eq_self, true_and, and_true, true_or, or_true, if_true, if_false, not_true, not_false_eq_true, false_and, and_false, decide_true, decide_false, bi_T, bi_F, bi_0, bi_1, bi_z, bft, n10, n01, Nat.reduceEqDiff, Nat.reduceLT, Nat.reduceAdd, Nat.reduceMul, reduceCtorEq, hk, lN64 (rs_lt op t) (Nat.two_pow_pos 64)]
          by_cases qz : rs op t = 0
          · rw [if_pos qz]
            refine done s hs (fun b hb hbn => ?_) _ _ _
            rw [hsp b hb hbn]
            constructor
            · rintro ⟨y1, y2⟩
              refine ⟨y1, fun i hi => ?_⟩
              by_cases q3 : i < t
              · exact y2 i q3 hi
              · rw [rs_z h0 qz i (by omega)] at hi; cases hi
            · rintro ⟨y1, y2⟩
              exact ⟨y1, fun i _ hi => y2 i hi⟩
          rw [if_neg qz, b_Maker_countFilling_105]
          by_cases qs : s = 0
          · rw [if_pos (by rw [qs])]
            refine done s hs (fun b hb hbn => ?_) _ _ _
            constructor
            · intro z; rw [qs, Nat.zero_testBit] at z; cases z
            · rintro ⟨y1, y2⟩
              exact (hsp b hb hbn).2 ⟨y1, fun i _ hi => y2 i hi⟩
          rw [if_neg (by rw [lN64 hs (Nat.two_pow_pos 64)]; exact qs)]
          obtain ⟨b, hb⟩ := lw_ex qz
          obtain ⟨b1, b2, b3, b4⟩ := lw_rs h0 hb
          have q26 : b * 26 + w < 1664 := by omega
          simp (disch := omega) only [b_Maker_countFilling_112, ↓reduceIte, nadd, nmul, nsub, nlt, neq, ncl, nvi, ndiv, nrem, exI, exJ, exV, eq_self, true_and, and_true, true_or, or_true, if_true, if_false, not_true, not_false_eq_true, false_and, and_false, decide_true, decide_false, bi_T, bi_F, bi_0, bi_1, bi_z, bft, n10, n01, Nat.reduceEqDiff, Nat.reduceLT, Nat.reduceAdd, Nat.reduceMul, reduceCtorEq, k0, c_ntzL (rs_lt op t) hb.1 hb.2, r5]
          simp (disch := omega) only [b_Maker_countFilling_123, ↓reduceIte, nadd, nmul, nsub, nlt, neq, ncl, nvi, ndiv, nrem, exI, exJ, exV, eq_self, true_and, and_true, true_or, or_true, if_true, if_false, not_true, not_false_eq_true, false_and, and_false, decide_true, decide_false, bi_T, bi_F, bi_0, bi_1, bi_z, bft, n10, n01, Nat.reduceEqDiff, Nat.reduceLT, Nat.reduceAdd, Nat.reduceMul, reduceCtorEq, k5, n5, q26, i5 b b2 w hw, fb_andL, rs_clr h0 hb]
          refine ihk (b + 1) _ (by omega) (Nat.lt_of_le_of_lt Nat.and_le_left hs) (fun b' hb' hbn => ?_) _
          rw [Nat.testBit_and, Bool.and_eq_true, hsp b' hb' hbn, hv_bit hb', decide_eq_true hbn, Bool.true_and]
          constructor
          · rintro ⟨⟨y1, y2⟩, y3⟩
            refine ⟨y1, fun i h5 h6 => ?_⟩
            by_cases q3 : i < t
            · exact y2 i q3 h6
            · by_cases q4 : i = b
              · rw [q4]; exact y3
              · rw [b4 i (by omega) (by omega)] at h6; cases h6
          · rintro ⟨y1, y2⟩
            exact ⟨⟨y1, fun i h5 h6 => y2 i (by omega) h6⟩, y2 b (by omega) b3⟩
      have start := join 0 (by omega) 0
      rw [rs_0 h0] at start
      rw [b_Maker_countFilling_54]
      cases el : lk with
      | none =>
        rw [show lkI (Option.none : Option Nat) = (-1 : Int32) from rfl, if_pos rfl, b_Maker_countFilling_60, b_Maker_countFilling_83, m1L]
        rw [el] at start
        refine start _ (by omega) (by decide) (fun b hb _ => ?_) _
        rw [Nat.testBit_two_pow_sub_one, decide_eq_true hb]
        exact ⟨fun _ => ⟨fun c hc => (by cases hc), fun i hi => absurd hi (by omega)⟩, fun _ => rfl⟩
      | some c =>
        have hc := hlk c el
        have q3 : ¬ nI c = (-1 : Int32) := by
          intro z
          have h1 := b_m1 31 (by omega)
          rw [← z, bt_nI (by omega), Nat.testBit_lt_two_pow (Nat.lt_of_lt_of_le (show c < 2 ^ 11 by omega) (by decide))] at h1
          cases h1
        have q26 : c * 26 + w < 1664 := by omega
        rw [show lkI (Option.some c) = nI c from rfl, if_neg q3, b_Maker_countFilling_66]
        simp (disch := omega) only [b_Maker_countFilling_83, ↓reduceIte, nadd, nmul, nsub, nlt, neq, ncl, nvi, ndiv, nrem, exI, exJ, exV, eq_self, true_and, and_true, true_or, or_true, if_true, if_false, not_true, not_false_eq_true, false_and, and_false, decide_true, decide_false, bi_T, bi_F, bi_0, bi_1, bi_z, bft, n10, n01, Nat.reduceEqDiff, Nat.reduceLT, Nat.reduceAdd, Nat.reduceMul, reduceCtorEq, k0, r5, k5, n5, q26, i5 c hc w hw]
        rw [m1L, fb_xorL]
        rw [el] at start
        refine start _ (by omega) (Nat.xor_lt_two_pow (hv_lt _ _ _ _) (by decide)) (fun b hb hbn => ?_) _
        rw [Nat.testBit_xor, Nat.testBit_two_pow_sub_one, decide_eq_true hb, hv_bit hb, decide_eq_true hbn, Bool.true_and, Bool.xor_true]
        constructor
        · intro z
          refine ⟨fun c' hc' => ?_, fun i hi => absurd hi (by omega)⟩
          cases hc'
          cases y : (F (64 * w + b)).testBit c
          · rfl
          · rw [y] at z; cases z
        · rintro ⟨y1, _⟩
          rw [y1 c rfl]
          rfl
  rw [e_Maker_countFilling, b_Maker_countFilling_0]
  simp (disch := omega) only [k0, true_and, i3, ldif]
  by_cases q : sbs op (orU F n)
  rotate_left
  · rw [if_neg (by rw [dif0 h0]; exact q), b_Maker_countFilling_29]
    exact none (fun i hi z => q (fun k hk => orU_sub n hi k (z k hk)))
  rw [if_pos (by rw [dif0 h0]; exact q)]
  simp (disch := omega) only [b_Maker_countFilling_18, b_Maker_countFilling_22, ↓reduceIte, nadd, nmul, nsub, nlt, neq, ncl, nvi, ndiv, nrem, exI, exJ, exV, eq_self, true_and, and_true, true_or, or_true, if_true, if_false, not_true, not_false_eq_true, false_and, and_false, decide_true, decide_false, bi_T, bi_F, bi_0, bi_1, bi_z, bft, n10, n01, Nat.reduceEqDiff, Nat.reduceLT, Nat.reduceAdd, Nat.reduceMul, reduceCtorEq, c_bitL, pcL_N, k0, i2]
  by_cases q2 : mxU F n < pcN op
  · rw [if_pos q2, b_Maker_countFilling_29]
    refine none (fun i hi z => ?_)
    have := pcN_sub z
    have := mxU_sub (F := F) n hi
    omega
  rw [if_neg q2, b_Maker_countFilling_32]
  have := out 0 (by omega) I (fun _ _ _ => rfl)
  rw [show min n (64 * 0) = 0 by omega] at this
  exact this (fun z => absurd rfl z) _ _ _ _
end CFI
