/-! ===== image, back: both ===== -/
section IMG
variable {N : Nat} {X : Nat → Int32} {ow : Nat → Nat} {S : Nat → Nat → Nat} {LF : aLF} {g : aG} {I : Nat → Nat → Int32} {J : Nat → Nat → Int64} {Q : aQ} {d : Nat}
/-- a scene is kept -/
theorem INV_im {g' : aG} {ow' : Nat → Nat} {I' : Nat → Nat → Int32} {J' : Nat → Nat → Int64} (h : INV N X ow S LF g I J) (hG : GG N ow' g') (h83 : ∀ f, f < 6 → gR g' 83 f = gR g 83 f) (hr : ∀ a j, a < 123 → a ≠ 92 → a ≠ 93 → ¬ (a = 6 ∧ j = 14) → ¬ (a = 89 ∧ (j = 0 ∨ j = 1 ∨ j = 36)) → I' a j = I a j) (hJ : ∀ a, a < 123 → J' a = J a) (hb : ∀ a, 123 ≤ a → a < gx g → 1 ≤ ow a → ow a ≤ 6 → I' a = I a ∧ J' a = J a) (hIM : IMs g' I') (s14 : I' 6 14 = nI 0) (s1 : I' 89 1 = nI 0) (h36 : I' 89 36 = nI 0) : INV N X ow' S LF g' I' J' := by
  obtain ⟨h1, h2, ⟨h3, h4, h5⟩, h6, ⟨B, t, t1, t2, t3, t4, t5⟩, ⟨z1, z2, z3, z4, z5, z6⟩, ⟨c1, c2, c3, c4, c5⟩, h9⟩ := h
  have r : ∀ a, a < 123 → ¬ (a = 6 ∨ a = 89 ∨ a = 92 ∨ a = 93) → I' a = I a := fun a y1 y2 => funext (fun j => hr a j y1 (by omega) (by omega) (by omega) (by omega))
  have hW : I' 91 = I 91 := r 91 (by decide) (by decide)
  refine ⟨hG, by rw [r 1 (by decide) (by decide)]; exact h2, ⟨⟨fun a j y1 y2 => by rw [r a (by omega) (by omega)]; exact h3.1 a j y1 y2, h3.2⟩, by rw [hW, r 14 (by decide) (by decide)]; exact h4, by rw [hW]; exact LJ_cong (fun a y1 y2 => r a (by omega) (by omega)) (fun _ _ => rfl) h5⟩, hIM, ⟨B, t, t1, t2, by rw [hr 6 11 (by decide) (by decide) (by decide) (by decide) (by decide)]; exact t3, by rw [hr 89 8 (by decide) (by decide) (by decide) (by decide) (by decide)]; exact t4, fun i hi => by rw [r 22 (by decide) (by decide), r 94 (by decide) (by decide)]; exact t5 i hi⟩, ⟨?_, ?_, by rw [s14, s1], ?_, by rw [r 87 (by decide) (by decide), r 122 (by decide) (by decide)]; exact z5, by rw [r 88 (by decide) (by decide), r 90 (by decide) (by decide)]; exact z6⟩, ⟨HC_c (r 38 (by decide) (by decide)) (r 39 (by decide) (by decide)) (hJ 37 (by decide)) c1, by rw [r 46 (by decide) (by decide)]; exact c2, ?_, Or.inl h36, ?_⟩, ?_⟩
  · rw [hr 6 12 (by decide) (by decide) (by decide) (by decide) (by decide), hr 89 6 (by decide) (by decide) (by decide) (by decide) (by decide)]; exact z1
  · rw [hr 6 13 (by decide) (by decide) (by decide) (by decide) (by decide), hr 89 13 (by decide) (by decide) (by decide) (by decide) (by decide)]; exact z2
  · rw [hr 6 15 (by decide) (by decide) (by decide) (by decide) (by decide), hr 89 61 (by decide) (by decide) (by decide) (by decide) (by decide)]; exact z4
  · unfold PR at c3 ⊢
    rw [r 44 (by decide) (by decide), r 47 (by decide) (by decide)]; exact c3
  · rw [r 14 (by decide) (by decide)]
    exact MC_w h1.2.2.2.1 h83 (fun a y1 y2 => r a (by omega) (by omega)) ⟨hJ 49 (by decide), hJ 50 (by decide)⟩ hb c5
  · unfold STA at h9 ⊢
    rw [r 2 (by decide) (by decide), r 3 (by decide) (by decide), r 4 (by decide) (by decide), hJ 100 (by decide)]; exact h9
theorem w_mImg (hg : Geo g) {k : Nat} (hk : k < 2) (hQ : a_wp aTab aMX (d + 1) m_Mo_image 54 [.ref 89, .int (nI k), .int (nI 1470)] [] (g, wr I 92 (1470 * k) (I 91) 1470, J) Q) : a_wp aTab aMX (d + 1) m_Mo_image 23 [.ref 89, .int (nI k), .int (nI 0)] [] (g, I, J) Q := by
  have h0 : a_wp aTab aMX (d + 1) m_Mo_image 23 [.ref 89, .int (nI k), .int (nI 0)] [] (g, wr I 92 (1470 * k) (I 91) 0, J) Q := by
    refine dn (P := fun i => a_wp aTab aMX (d + 1) m_Mo_image 23 [.ref 89, .int (nI k), .int (nI i)] [] (g, wr I 92 (1470 * k) (I 91) i, J) Q) (n := 1470) ?_ ?_ 0 (by omega)
    · rw [b_Mo_image_23]
      simp (disch := omega) only [↓reduceIte, nadd, nmul, nsub, nlt, neq, ncl, nvi, ndiv, nrem, exI, exJ, exV, eq_self, true_and, and_true, true_or, or_true, if_true, if_false, not_true, not_false_eq_true, false_and, and_false, decide_true, decide_false, bi_T, bi_F, bi_0, bi_1, bi_z, bft, n10, n01, Nat.reduceEqDiff, Nat.reduceLT, Nat.reduceAdd, Nat.reduceMul, reduceCtorEq, Nat.lt_irrefl]
      exact hQ
    · intro i hi ih
      rw [← wr_s] at ih
      have e : wr I 92 (1470 * k) (I 91) i 91 i = I 91 i := wr_n (by omega)
      rw [b_Mo_image_23]
      simp (disch := omega) only [↓reduceIte, nadd, nmul, nsub, nlt, neq, ncl, nvi, ndiv, nrem, exI, exJ, exV, eq_self, true_and, and_true, true_or, or_true, if_true, if_false, not_true, not_false_eq_true, false_and, and_false, decide_true, decide_false, bi_T, bi_F, bi_0, bi_1, bi_z, bft, n10, n01, Nat.reduceEqDiff, Nat.reduceLT, Nat.reduceAdd, Nat.reduceMul, reduceCtorEq, hi, b_Mo_image_30 hg, e]
      exact ih
  rw [wr_0] at h0
  exact h0
theorem w_mBck (hg : Geo g) {k : Nat} (hk : k < 2) (hQ : ∀ v1, a_wp aTab aMX (d + 1) m_Mo_back 70 [.ref 89, v1, .int (nI 1470)] [] (g, wr I 91 0 (fun i => I 92 (1470 * k + i)) 1470, J) Q) : a_wp aTab aMX (d + 1) m_Mo_back 39 [.ref 89, .int (nI k), .int (nI 0)] [] (g, I, J) Q := by
  obtain ⟨F, eF⟩ : ∃ F : Nat → Int32, F = fun i => I 92 (1470 * k + i) := ⟨_, rfl⟩
  rw [← eF] at hQ
  have h0 : a_wp aTab aMX (d + 1) m_Mo_back 39 [.ref 89, .int (nI k), .int (nI 0)] [] (g, wr I 91 0 F 0, J) Q := by
    refine dn (P := fun i => a_wp aTab aMX (d + 1) m_Mo_back 39 [.ref 89, .int (nI k), .int (nI i)] [] (g, wr I 91 0 F i, J) Q) (n := 1470) ?_ ?_ 0 (by omega)
    · rw [b_Mo_back_39]
      simp (disch := omega) only [↓reduceIte, nadd, nmul, nsub, nlt, neq, ncl, nvi, ndiv, nrem, exI, exJ, exV, eq_self, true_and, and_true, true_or, or_true, if_true, if_false, not_true, not_false_eq_true, false_and, and_false, decide_true, decide_false, bi_T, bi_F, bi_0, bi_1, bi_z, bft, n10, n01, Nat.reduceEqDiff, Nat.reduceLT, Nat.reduceAdd, Nat.reduceMul, reduceCtorEq, Nat.lt_irrefl]
      exact hQ _
    · intro i hi ih
      rw [← wr_s0, show F i = I 92 (1470 * k + i) by rw [eF]] at ih
      have e : wr I 91 0 F i 92 (1470 * k + i) = I 92 (1470 * k + i) := wr_n (by omega)
      rw [b_Mo_back_39]
      simp (disch := omega) only [↓reduceIte, nadd, nmul, nsub, nlt, neq, ncl, nvi, ndiv, nrem, exI, exJ, exV, eq_self, true_and, and_true, true_or, or_true, if_true, if_false, not_true, not_false_eq_true, false_and, and_false, decide_true, decide_false, bi_T, bi_F, bi_0, bi_1, bi_z, bft, n10, n01, Nat.reduceEqDiff, Nat.reduceLT, Nat.reduceAdd, Nat.reduceMul, reduceCtorEq, hi, b_Mo_back_46 hg, e]
      exact ih
  rw [wr_0] at h0
  exact h0
theorem imn_1 {g g' : aG} {k : Nat} (hk : k < 2) (h0 : gR g 21 k = 0) (h1 : gR g' 21 k ≠ 0) (h2 : ∀ k', k' < 2 → k' ≠ k → gR g' 21 k' = gR g 21 k') : imn g = imn g' + 1 := by
  unfold imn
  rw [fb_ct_succ, fb_ct_succ, fb_ct_succ, fb_ct_succ]
  have hc : k = 0 ∨ k = 1 := by omega
  rcases hc with rfl | rfl
  · rw [h2 1 (by decide) (by decide), decide_eq_true h0, decide_eq_false h1, if_pos rfl, if_neg Bool.false_ne_true]
    show 0 + 1 + _ = 0 + 0 + _ + 1
    omega
  · rw [h2 0 (by decide) (by decide), decide_eq_true h0, decide_eq_false h1, if_pos rfl, if_neg Bool.false_ne_true]
    show 0 + _ + 1 = 0 + _ + 0 + 1
    omega
theorem SO_put {g : aG} {p a k b : Nat} (h : ¬ (p ≤ a ∧ a < p + 14)) (hs : SO g p) : SO (gput g a k b) p := by
  have e : ∀ x j, p ≤ x → x < p + 14 → gR (gput g a k b) x j = gR g x j := fun x j y1 y2 => by rw [gR_put, if_neg (by omega)]
  have q : ∀ i, i < 14 → ∀ j, gR (gput g a k b) (p + i) j = gR g (p + i) j := fun i hi j => e _ j (by omega) (by omega)
  have q0 : ∀ j, gR (gput g a k b) p j = gR g p j := fun j => e _ j (by omega) (by omega)
  have q8 : ∀ j, gR (gput g a k b) (p + 8) j = gR g (p + 8) j := q 8 (by decide)
  unfold SO SCo at hs ⊢
  simp only [gK_put, gN_put, q0, q8]
  exact hs
set_option maxHeartbeats 8000000 in
theorem m_image {x : Int32} (h : INV N X ow S LF g I J) : BOTH N X (d + 3) m_Cp_image m_Mo_image [.int x] (g, I, J) := by
  obtain ⟨hg, hx, hN, hP, hL, hI, hr1, hr2⟩ := h.1
  by_cases qx : ¬ x < nI 0 ∧ ¬ nI 1 < x
  rotate_left
  · refine both_r h (-1) 1 (by decide) (by decide) (fun Q hq => ?_) (fun Q hq => ?_)
    · by_cases q1 : x < nI 0
      · simp (disch := omega) only [e_Cp_image, b_Cp_image_0, b_Cp_image_13 hg, b_Cp_image_18, q1, c_refuse hg (v := (-1 : Int32)) (r := 1) (by decide) (by decide) (by decide), exI, exJ, exV, eq_self, true_and, and_true, true_or, or_true, if_true, if_false, not_true, not_false_eq_true, false_and, and_false, decide_true, decide_false, bi_T, bi_F, bi_0, bi_1, bi_z, bft, n10, n01, Nat.reduceEqDiff, Nat.reduceLT, Nat.reduceAdd, Nat.reduceMul, reduceCtorEq]; exact hq
      · have q2 : ¬ x < nI 2 := fun z => qx ⟨q1, fun y => by
          rw [fa_lt, nI_toInt (by decide)] at z y
          omega⟩
        simp (disch := omega) only [e_Cp_image, b_Cp_image_0, b_Cp_image_4 hg, b_Cp_image_13 hg, b_Cp_image_18, q1, q2, c_refuse hg (v := (-1 : Int32)) (r := 1) (by decide) (by decide) (by decide), exI, exJ, exV, eq_self, true_and, and_true, true_or, or_true, if_true, if_false, not_true, not_false_eq_true, false_and, and_false, decide_true, decide_false, bi_T, bi_F, bi_0, bi_1, bi_z, bft, n10, n01, Nat.reduceEqDiff, Nat.reduceLT, Nat.reduceAdd, Nat.reduceMul, reduceCtorEq]; exact hq
    · simp (disch := omega) only [e_Mo_image, b_Mo_image_0 hg, b_Mo_image_12, b_Mo_image_15 hg, b_Mo_image_20, c_inI, decide_eq_false qx, tl_rf (v := (-1 : Int32)) (r := 1) h (by decide) (by decide) (by decide), exI, exJ, exV, eq_self, true_and, and_true, true_or, or_true, if_true, if_false, not_true, not_false_eq_true, false_and, and_false, decide_true, decide_false, bi_T, bi_F, bi_0, bi_1, bi_z, bft, n10, n01, Nat.reduceEqDiff, Nat.reduceLT, Nat.reduceAdd, Nat.reduceMul, reduceCtorEq]; exact hq
  obtain ⟨k, rfl, -, hk⟩ := irng (by decide) (by decide) qx.1 qx.2
  have key : ∀ (g1 : aG) (ow1 : Nat → Nat) (I1 : Nat → Nat → Int32) (J1 : Nat → Nat → Int64) (P : Nat) (Sx : Nat → Nat → Nat), GG N ow1 g1 → gx g ≤ gx g1 → (∀ f, f < 6 → gR g1 83 f = gR g 83 f) → gR g1 21 k = P → (∀ k', k' < 2 → k' ≠ k → gR g1 21 k' = gR g 21 k') → SO g1 P → 123 ≤ P → (∀ a, a < gx g → ow1 a = ow a) → (∀ a, P ≤ a → a < P + 14 → ow1 a = 8 + k) → (∀ a, a < gx g → I1 a = I a ∧ J1 a = J a) → SBx Sx → (∀ a j, 7 ≤ a → a ≤ 13 → ¬ j < lnS (a - 7) → I1 (P + (a - 7)) j = nI (Sx a j)) → ∀ v1, a_wp aTab aMX (d + 2) m_Cp_image 45 [.ref 6, v1, .ref P] [] (g1, I1, J1) (fun v h2 => ∃ i : Int32, v = some (.int i) ∧ h2.2.1 1 = X ∧ gN h2.1 1 = N ∧ a_call aTab aMX (d + 3) m_Mo_image [.ref 89, .int (nI k)] h2 (fun v3 h3 => ∃ i3 : Int32, v3 = some (.int i3) ∧ i = i3 ∧ INVx N X h3)) := by
    intro g1 ow1 I1 J1 P Sx hG gle h83 hPk ho21 hSO hP1 o1 o2 fI hSx hxr v1
    have hg1 := hG.1
    rw [b_Cp_image_45 hg1]
    refine ⟨hSO.1, c_takeFrom hSO (SO_7 hg1) (Or.inl (by omega)) (fun I2 t1 t2 => ⟨rfl, ?_⟩)⟩
    rw [b_Cp_image_53 hg1, c_accept hg1]
    simp only [exI]
    rw [b_Cp_image_58]
    have b2 : ∀ a j, a < 123 → I2 a j = I a j := fun a j ha => by rw [t2 a j (by omega), (fI a (by omega)).1]
    refine ⟨_, rfl, by rw [← h.2.1]; funext j; simp (disch := omega) only [u2_n, b2], hG.2.2.1, ?_⟩
    rw [e_Mo_image, b_Mo_image_0 hg1, c_inI (by decide) (by decide), decide_eq_true qx]
    simp only [exI]
    rw [b_Mo_image_12, if_neg (by decide), b_Mo_image_21]
    refine w_mImg hg1 (by omega) ?_
    rw [b_Mo_image_54 hg1, ncl (by omega), c_tellN hg1 (by decide)]
    simp only [exI]
    rw [b_Mo_image_66]
    refine ⟨by rw [nvi (by omega) (by omega)]; trivial, _, rfl, rfl, INVx_i (INV_im h hG h83 (fun a j y1 y2 y3 y4 y5 => ?_) (fun a ha => (fI a (by omega)).2) (fun a y1 y2 y3 y4 => ⟨funext (fun j => ?_), (fI a y2).2⟩) (fun k' hk' => ?_) ?_ ?_ u2_s)⟩
    · simp (disch := omega) only [u2_n, wr_n, b2]
    · simp (disch := omega) only [u2_n, wr_n]
      rw [t2 a j (fun z => by have := o2 a z.1 z.2.1; rw [o1 a y2] at this; omega), (fI a y2).1]
    · by_cases e : k' = k
      · subst e
        refine Or.inr ⟨by rw [hPk]; omega, by simp (disch := omega) only [u2_n, u2_s], mxs S Sx, LF, ?_⟩
        rw [hPk]
        refine OKs_t h.2.2.1 (fun a j y1 y2 y3 => ?_) (fun a j y1 y2 y3 => ?_) hSx (fun i hi => ?_)
        · unfold ISH
          simp (disch := omega) only [u2_n, wr_n]
          rw [t1 (a - 7) (by omega) j y3, show 7 + (a - 7) = a by omega, (fI a (by omega)).1]
        · unfold ISH
          simp (disch := omega) only [u2_n, wr_n]
          rw [t2 _ _ (by rw [show P + (a - 7) - P = a - 7 by omega]; omega)]
          exact hxr a j y1 y2 y3
        · simp (disch := omega) only [u2_n, wr_i, b2]
      · have e21 := ho21 k' hk' e
        rcases h.2.2.2.1 k' hk' with ⟨w1, w2⟩ | ⟨w1, w2, S2, LF2, w3⟩
        · exact Or.inl ⟨by rw [e21]; exact w1, by simp (disch := omega) only [u2_n, wr_n, b2]; exact w2⟩
        · rcases hI k' hk' with z | ⟨z1, z2, z3, z4⟩
          · exact absurd z w1
          have ro : ∀ a j, 7 ≤ a → a ≤ 20 → I2 (gR g 21 k' + (a - 7)) j = I (gR g 21 k' + (a - 7)) j := fun a j y1 y2 => by
            rw [t2 _ j (fun z => by have := o2 _ z.1 z.2.1; rw [o1 _ (by omega), z4 _ (by omega) (by omega)] at this; omega), (fI _ (by omega)).1]
          refine Or.inr ⟨by rw [e21]; exact w1, by simp (disch := omega) only [u2_n, wr_n, b2]; exact w2, mxs S2 S2, LF2, ?_⟩
          rw [e21]
          refine OKs_t w3 (fun a j y1 y2 y3 => ?_) (fun a j y1 y2 y3 => ?_) (SBx_S w3.1.2) (fun i hi => ?_)
          · unfold ISH
            simp (disch := omega) only [u2_n, wr_n, ro]
          · unfold ISH
            simp (disch := omega) only [u2_n, wr_n, ro]
            exact w3.1.1 a j y1 y2
          · have hc : (k = 0 ∧ k' = 1) ∨ (k = 1 ∧ k' = 0) := by omega
            rcases hc with ⟨rfl, rfl⟩ | ⟨rfl, rfl⟩
            · simp (disch := omega) only [u2_n, wr_n, b2]
            · simp (disch := omega) only [u2_n, wr_n, b2]
    · simp (disch := omega) only [u2_n, wr_n, u2_s]
    · simp (disch := omega) only [u2_n, u2_s]
  unfold BOTH
  have st : ∀ Q : aQ, a_wp aTab aMX (d + 2) m_Cp_image 19 [.ref 6, .int (nI k), aU] [] (g, I, J) Q → a_call aTab aMX (d + 3) m_Cp_image [.ref 6, .int (nI k)] (g, I, J) Q := fun Q hq => by
    have q2 : k < 2 := by omega
    simp (disch := omega) only [e_Cp_image, b_Cp_image_0, b_Cp_image_4 hg, ↓reduceIte, nadd, nmul, nsub, nlt, neq, ncl, nvi, ndiv, nrem, exI, exJ, exV, eq_self, true_and, and_true, true_or, or_true, if_true, if_false, not_true, not_false_eq_true, false_and, and_false, decide_true, decide_false, bi_T, bi_F, bi_0, bi_1, bi_z, bft, n10, n01, Nat.reduceEqDiff, Nat.reduceLT, Nat.reduceAdd, Nat.reduceMul, reduceCtorEq, q2, Nat.not_lt_zero]; exact hq
  refine st _ ?_
  rw [b_Cp_image_19 hg, ncl (by omega)]
  refine ⟨by rw [nvi (by omega) (by omega)]; trivial, ?_⟩
  by_cases q0 : gR g 21 k = 0
  · rw [if_pos q0, b_Cp_image_30]
    refine ⟨by rw [gK_new, if_pos rfl], c_scInit (by omega) (k_4 hg) (n_4 hg) (fun g' I' J' s1 s2 s3 s4 s5 => ⟨rfl, ?_⟩)⟩
    obtain ⟨n1, n2, n3⟩ := s2
    have k21 : gK g' 21 = gK g 21 := (n3 21 (by omega)).1
    have hg' : Geo g' := Geo_c hg (fun a ha => ⟨(n3 a (by omega)).1, (n3 a (by omega)).2.1, fun j _ => (n3 a (by omega)).2.2 j⟩)
    rw [b_Cp_image_37 hg', ncl (by omega)]
    refine ⟨s1.1, by rw [nvi (by omega) (by omega)]; trivial, ?_⟩
    have eR : ∀ a j, ¬ (a = 21 ∧ j = k) → gR (gput g' 21 k (gx g)) a j = gR g' a j := fun a j z => by rw [gR_put, if_neg z]
    have eP : gR (gput g' 21 k (gx g)) 21 k = gx g := by rw [gR_put, if_pos ⟨rfl, rfl⟩]
    have gw : Gw g (gput g' 21 k (gx g)) := ⟨by rw [gx_put]; omega, fun a ha => ⟨(n3 a ha).1, (n3 a ha).2.1, fun j _ _ y3 => by rw [eR a j (by omega)]; exact (n3 a ha).2.2 j⟩⟩
    have h83 : ∀ f, f < 6 → gR (gput g' 21 k (gx g)) 83 f = gR g 83 f := fun f _ => by rw [eR 83 f (by omega)]; exact (n3 83 (by omega)).2.2 f
    have h44 : ∀ j, gR (gput g' 21 k (gx g)) 44 j = gR g 44 j := fun j => by rw [eR 44 j (by omega)]; exact (n3 44 (by omega)).2.2 j
    have h21 : ∀ k', k' < 2 → k' ≠ k → gR (gput g' 21 k (gx g)) 21 k' = gR g 21 k' := fun k' y1 y2 => by rw [eR 21 k' (by omega)]; exact (n3 21 (by omega)).2.2 k'
    have hSO : SO (gput g' 21 k (gx g)) (gx g) := SO_put (by omega) s1
    have o1 : ∀ a, a < gx g → (fun a => if a < gx g then ow a else 8 + k) a = ow a := fun a ha => if_pos ha
    have im := imn_1 (g' := gput g' 21 k (gx g)) (by omega) q0 (by rw [eP]; omega) h21
    have p1 : pn (gput g' 21 k (gx g)) = pn g := by unfold pn; rw [h44]
    have p3 : nl (gput g' 21 k (gx g)) = nl g := fb_ct_cong (fun f hf => by rw [h83 f hf])
    have hs : gs (gput g' 21 k (gx g)) = gs g' := rfl
    have hxx : gx (gput g' 21 k (gx g)) = gx g' := rfl
    refine key (gput g' 21 k (gx g)) (fun a => if a < gx g then ow a else 8 + k) I' J' (gx g) (fun _ _ => 0) ⟨Geo_c hg (fun a ha => ⟨(gw.2 a (by omega)).1, (gw.2 a (by omega)).2.1, fun j hj => (gw.2 a (by omega)).2.2 j (fun z => hj (Or.inl z)) (fun z => hj (Or.inr (Or.inl z))) (fun z => hj (Or.inr (Or.inr z)))⟩), by omega, by rw [(gw.2 1 (by omega)).2.1]; exact hN, PW_w gw h83 o1 hP, PLg_w gw ⟨h44 6, h44 7⟩ o1 hL, fun k' hk' => ?_, by rw [p1, p3, hxx]; omega, by rw [p1, p3, hs]; omega⟩ gw.1 h83 eP h21 hSO hx o1 (fun a y1 y2 => if_neg (by omega)) s3 ⟨fun _ _ _ _ => Nat.zero_le _, fun _ => Nat.zero_le _, fun _ => Nat.zero_le _, fun _ => Nat.zero_le _, fun _ => Nat.zero_le _, fun _ => Nat.zero_le _⟩ (fun a j y1 y2 y3 => ?_) _
    · by_cases e : k' = k
      · rw [e, eP]
        exact Or.inr ⟨hSO, hx, by omega, fun a y1 y2 => if_neg (by omega)⟩
      · rw [h21 k' hk' e]
        rcases hI k' hk' with z | ⟨z1, z2, z3, z4⟩
        · exact Or.inl z
        · exact Or.inr ⟨SO_w gw z2 z3 z1, z2, Nat.le_trans z3 gw.1, fun a y1 y2 => by rw [o1 a (by omega)]; exact z4 a y1 y2⟩
    · refine s4 _ j (by omega) (by omega) (fun z => y3 ?_)
      rw [show a = 10 by omega]
      exact z.2
  · rw [if_neg q0]
    rcases hI k (by omega) with z | ⟨z1, z2, z3, z4⟩
    · exact absurd z q0
    rcases h.2.2.2.1 k (by omega) with ⟨w1, w2⟩ | ⟨w1, w2, S2, LF2, w3⟩
    · exact absurd w1 q0
    exact key g ow I J (gR g 21 k) S2 h.1 (Nat.le_refl _) (fun _ _ => rfl) rfl (fun _ _ _ => rfl) z1 z2 (fun _ _ => rfl) z4 (fun _ _ => ⟨rfl, rfl⟩) (SBx_S w3.1.2) (fun a j y1 y2 _ => w3.1.1 a j y1 y2) _
theorem m_back {x : Int32} (h : INV N X ow S LF g I J) : BOTH N X (d + 3) m_Cp_back m_Mo_back [.int x] (g, I, J) := by
  obtain ⟨hg, hx, hN, hP, hL, hI, hr1, hr2⟩ := h.1
  by_cases qx : ¬ x < nI 0 ∧ ¬ nI 1 < x
  rotate_left
  · refine both_r h (-1) 1 (by decide) (by decide) (fun Q hq => ?_) (fun Q hq => ?_)
    · by_cases q1 : x < nI 0
      · simp (disch := omega) only [e_Cp_back, b_Cp_back_0, b_Cp_back_13 hg, b_Cp_back_18, q1, c_refuse hg (v := (-1 : Int32)) (r := 1) (by decide) (by decide) (by decide), exI, exJ, exV, eq_self, true_and, and_true, true_or, or_true, if_true, if_false, not_true, not_false_eq_true, false_and, and_false, decide_true, decide_false, bi_T, bi_F, bi_0, bi_1, bi_z, bft, n10, n01, Nat.reduceEqDiff, Nat.reduceLT, Nat.reduceAdd, Nat.reduceMul, reduceCtorEq]; exact hq
      · have q2 : ¬ x < nI 2 := fun z => qx ⟨q1, fun y => by
          rw [fa_lt, nI_toInt (by decide)] at z y
          omega⟩
        simp (disch := omega) only [e_Cp_back, b_Cp_back_0, b_Cp_back_4 hg, b_Cp_back_13 hg, b_Cp_back_18, q1, q2, c_refuse hg (v := (-1 : Int32)) (r := 1) (by decide) (by decide) (by decide), exI, exJ, exV, eq_self, true_and, and_true, true_or, or_true, if_true, if_false, not_true, not_false_eq_true, false_and, and_false, decide_true, decide_false, bi_T, bi_F, bi_0, bi_1, bi_z, bft, n10, n01, Nat.reduceEqDiff, Nat.reduceLT, Nat.reduceAdd, Nat.reduceMul, reduceCtorEq]; exact hq
    · simp (disch := omega) only [e_Mo_back, b_Mo_back_0 hg, b_Mo_back_12, b_Mo_back_15 hg, b_Mo_back_20, c_inI, decide_eq_false qx, tl_rf (v := (-1 : Int32)) (r := 1) h (by decide) (by decide) (by decide), exI, exJ, exV, eq_self, true_and, and_true, true_or, or_true, if_true, if_false, not_true, not_false_eq_true, false_and, and_false, decide_true, decide_false, bi_T, bi_F, bi_0, bi_1, bi_z, bft, n10, n01, Nat.reduceEqDiff, Nat.reduceLT, Nat.reduceAdd, Nat.reduceMul, reduceCtorEq]; exact hq
  obtain ⟨k, rfl, -, hk⟩ := irng (by decide) (by decide) qx.1 qx.2
  have q2 : k < 2 := by omega
  rcases h.2.2.2.1 k (by omega) with ⟨w1, w2⟩ | ⟨w1, w2, S2, LF2, w3⟩
  · have e93 : u2 (rfC I (-2) 2) 89 0 (nI 0) 93 k = nI 0 := by rw [u2_a (by decide), rfC_o (by decide) (by decide)]; exact w2
    refine both_r h (-2) 2 (by decide) (by decide) (fun Q hq => ?_) (fun Q hq => ?_)
    · simp (disch := omega) only [e_Cp_back, b_Cp_back_0, b_Cp_back_4 hg, b_Cp_back_19 hg, b_Cp_back_30 hg, b_Cp_back_36, ↓reduceIte, nadd, nmul, nsub, nlt, neq, ncl, nvi, ndiv, nrem, q2, w1, Nat.not_lt_zero, c_refuse hg (v := (-2 : Int32)) (r := 2) (by decide) (by decide) (by decide), exI, exJ, exV, eq_self, true_and, and_true, true_or, or_true, if_true, if_false, not_true, not_false_eq_true, false_and, and_false, decide_true, decide_false, bi_T, bi_F, bi_0, bi_1, bi_z, bft, n10, n01, Nat.reduceEqDiff, Nat.reduceLT, Nat.reduceAdd, Nat.reduceMul, reduceCtorEq]; exact hq
    · rw [e_Mo_back, b_Mo_back_0 hg, c_inI (by decide) (by decide), decide_eq_true qx]
      simp only [exI]
      rw [b_Mo_back_12, if_neg (by decide), b_Mo_back_21 hg, ncl (by omega), e93, if_pos rfl, b_Mo_back_30 hg, tl_rf (v := (-2 : Int32)) (r := 2) h (by decide) (by decide) (by decide)]
      simp only [exI]
      rw [b_Mo_back_36]
      exact ⟨by rw [nvi (by omega) (by omega)]; trivial, hq⟩
  rcases hI k (by omega) with z | ⟨z1, z2, z3, z4⟩
  · exact absurd z w1
  unfold BOTH
  simp (disch := omega) only [e_Cp_back, b_Cp_back_0, b_Cp_back_4 hg, b_Cp_back_19 hg, b_Cp_back_37 hg, ↓reduceIte, nadd, nmul, nsub, nlt, neq, ncl, nvi, ndiv, nrem, q2, w1, Nat.not_lt_zero, exI, exJ, exV, eq_self, true_and, and_true, true_or, or_true, if_true, if_false, not_true, not_false_eq_true, false_and, and_false, decide_true, decide_false, bi_T, bi_F, bi_0, bi_1, bi_z, bft, n10, n01, Nat.reduceEqDiff, Nat.reduceLT, Nat.reduceAdd, Nat.reduceMul, reduceCtorEq]
  refine c_takeFrom (SO_7 hg) z1 (Or.inr (by omega)) (fun I2 t1 t2 => ⟨rfl, ?_⟩)
  rw [b_Cp_back_45 hg, c_chHands hg]
  refine ⟨rfl, ?_⟩
  rw [b_Cp_back_49 hg]
  refine c_chCast hg (fun I3 f1 f2 f3 f4 => ⟨rfl, ?_⟩)
  rw [b_Cp_back_53 hg, c_accept hg]
  simp only [exI]
  rw [b_Cp_back_58]
  have b2 : ∀ a j, ¬ (7 ≤ a ∧ a ≤ 20) → I2 a j = I a j := fun a j ha => t2 a j (by omega)
  refine ⟨_, rfl, by rw [← h.2.1]; funext j; simp (disch := omega) only [u2_n, f1, fl2_n, b2], hN, ?_⟩
  rw [e_Mo_back, b_Mo_back_0 hg, c_inI (by decide) (by decide), decide_eq_true qx]
  simp only [exI]
  have e93 : u2 (u2 I3 6 14 (nI 0)) 89 0 (nI 0) 93 k = nI 1 := by simp (disch := omega) only [u2_n, f1, fl2_n, b2]; exact w2
  rw [b_Mo_back_12, if_neg (by decide), b_Mo_back_21 hg, ncl (by omega), e93, if_neg (by decide), b_Mo_back_37]
  refine ⟨by rw [nvi (by omega) (by omega)]; trivial, w_mBck hg q2 (fun v1 => ?_)⟩
  rw [b_Mo_back_70 hg, c_tellN hg (by decide)]
  simp only [exI]
  rw [b_Mo_back_75]
  obtain ⟨B, t, u1, u2', u3, u4, u5⟩ := h.2.2.2.2.1
  obtain ⟨s1, s2, s3, s4, s5, s6⟩ := h.2.2.2.2.2.1
  refine ⟨_, rfl, rfl, INVx_i (INV_sc (S' := mxs S2 S) (LF' := LF2) h (fun a y1 y2 y3 y4 y5 y6 y7 y8 y9 y10 y11 y12 => funext (fun j => ?_)) (OKs_t w3 (fun a j y1 y2 y3 => ?_) (fun a j y1 y2 y3 => ?_) (SBx_S h.2.2.1.1.2) (fun i hi => ?_)) ⟨B, t, u1, u2', ?_, ?_, fun i hi => ⟨?_, ?_⟩⟩ ⟨?_, ?_, ?_, ?_, fun b hb => ?_, fun r y1 y2 => ?_⟩ (fun b hb => ?_) ?_ u2_s (MC_0 ?_ ?_ (fun f hf => ?_)) (fun _ _ _ => rfl))⟩
  · simp (disch := omega) only [u2_n, wr_n, f1, fl2_n, b2]
  · simp (disch := omega) only [u2_n, wr_n, f1, fl2_n]
    have := t1 (a - 7) (by omega) j y3
    rw [show 7 + (a - 7) = a by omega] at this
    exact this
  · simp (disch := omega) only [u2_n, wr_n, f1, fl2_n]
    rw [t2 a j (by omega)]
    exact h.2.2.1.1.1 a j y1 y2
  · simp (disch := omega) only [u2_n, wr_i0, f1, fl2_n, b2]
  · simp (disch := omega) only [u2_n, wr_n, f1, fl2_n, b2]; exact u3
  · simp (disch := omega) only [u2_n, wr_n, f1, fl2_n, b2]; exact u4
  · simp (disch := omega) only [u2_n, wr_n, f1, fl2_n, b2]; exact (u5 i hi).1
  · simp (disch := omega) only [u2_n, wr_n, f1, fl2_n, b2]; exact (u5 i hi).2
  · simp (disch := omega) only [u2_n, wr_n, f1, fl2_n, b2]; exact s1
  · simp (disch := omega) only [u2_n, wr_n, f1, fl2_n, b2]; exact s2
  · simp (disch := omega) only [u2_n, wr_n, u2_s]
  · simp (disch := omega) only [u2_n, wr_n, f1, fl2_n, b2]; exact s4
  · simp (disch := omega) only [u2_n, wr_n, f1, fl2_n, b2]; exact s5 b hb
  · simp (disch := omega) only [u2_n, wr_n, f1, fl2_n, b2]; exact s6 r y1 y2
  · simp (disch := omega) only [u2_n, wr_n, f1, fl2_in]
  · simp (disch := omega) only [u2_n, wr_n, f1, u2_s]
  · simp (disch := omega) only [u2_n, wr_n]; exact f2
  · simp (disch := omega) only [u2_n, wr_n]; exact f3
  · simp (disch := omega) only [u2_n, wr_n]; exact f4 f hf
end IMG
