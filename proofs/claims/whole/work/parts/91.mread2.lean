/-! ===== the reference reads expressions: its turns ===== -/
theorem wh_not : lN 14836 = lN (wh 17) := by decide +kernel
theorem wh_and : lN 1476 = lN (wh 16) := by decide +kernel
theorem wh_or : lN 498 = lN (wh 15) := by decide +kernel
section MR2
variable {d : Nat} {g : aG} {I : Nat → Nat → Int32} {J : Nat → Nat → Int64} {Q : aQ} {B : Nat → Nat} {n : Nat} {I0 : Nat → Nat → Int32} {J0 : Nat → Nat → Int64} {p lv o : Nat} {q c : List (Nat × Nat)}
theorem c_mPart (hg : Geo g) (hT : TP B n I0 J0) (hp : p ≤ n) (hX : RX B n I0 J0 p lv o q c I J) (ho : o ≤ 8) (hlv : lv ≤ 50) (hs : q.length + c.length ≤ p) (h1 : tk B n p = 91 → o < 8 → ∀ I' J', RX B n I0 J0 (le B n p) lv (o + 1) ((31, 0) :: q) c I' J' → Q (some (.int (nI 1))) (g, I', J')) (h2 : tk B n p = 91 → ¬ o < 8 → ∀ I' J', BX I0 J0 (ls B n p) q c I' J' → Q (some (.int (nI 1))) (g, I', J')) (h3 : tk B n p ≠ 91 → ∀ w, pLeaf B n p lv = .inr w → ∀ I' J', RX B n I0 J0 w.1 w.2.1 o q (c ++ w.2.2.2.1) I' J' → Q (some (.int (nI 3))) (g, I', J')) (h4 : tk B n p ≠ 91 → ∀ f, pLeaf B n p lv = .inl f → ∀ I' J', BX I0 J0 f q c I' J' → Q (some (.int (nI 3))) (g, I', J')) : a_call aTab aMX (d + 5) m_Mo_readPart [.ref 89] (g, I, J) Q := by
  have hB := hT.1
  have hn := hT.2.1
  rw [e_Mo_readPart, b_Mo_readPart_0 hg, c_isSignX hg hB hX.1 (by decide) (by decide) (by decide)]
  simp only [exI]
  rw [b_Mo_readPart_6]
  by_cases z : tk B n p = 91
  · have hlt := tk_ne (n := n) (p := p) hB z (by decide)
    have hle := le_le (B := B) hp
    rw [decide_eq_true z, if_neg (by decide), b_Mo_readPart_9 hg]
    refine c_openX hg hT hp hX ho (by omega) ?_ ?_
    · intro hb I1 J1 g1
      simp only [exV, true_and]
      rw [b_Mo_readPart_15]
      exact h1 z hb I1 J1 g1
    · intro hb I1 J1 g1
      simp only [exV, true_and]
      rw [b_Mo_readPart_15]
      exact h2 z hb I1 J1 g1
  have h3 := h3 z
  have h4 := h4 z
  rw [decide_eq_false z, if_pos bi_F, b_Mo_readPart_17 hg, c_partAt hg hT hX]
  simp only [exI]
  obtain ⟨a1, a2, a3, a4⟩ := hX.1
  have hsr := sr_le B n p
  have hdig := tk_dig (n := n) (p := p) hB
  rw [b_Mo_readPart_21 hg, a3, req (by omega) (by omega)]
  unfold pLeaf at h3 h4
  have hv := vv_ww B (ls B n p) (de B n p - ls B n p)
  have hwl := ww_le (s := ls B n p) hB (de B n p - ls B n p)
  have hwt : sr B n p = 2 → wth B n p = lN (ww B (ls B n p) (de B n p - ls B n p)) := fun e => by
    unfold wth
    rw [e, if_neg (by decide), if_pos rfl]
  have env : nv B n p = min 100000 (ww B (ls B n p) (de B n p - ls B n p)) := hv
  by_cases q1 : tk B n p = 257 ∧ nv B n p ≤ 1000
  · -- a number
    have hs2 := hdig.2 q1.1
    have ew : ww B (ls B n p) (de B n p - ls B n p) = nv B n p := by omega
    have hlt := tk_ne (n := n) (p := p) hB q1.1 (by decide)
    have hle := le_le (B := B) hp
    have ept : ptI (tk B n p) = (-1 : Int32) := if_neg (by omega)
    rw [if_pos hs2, b_Mo_readPart_30 hg, a4, hwt hs2, if_neg (by rw [lN_lt (by omega) (by omega)]; omega), b_Mo_readPart_41, b_Mo_readPart_46, ept, if_pos rfl, b_Mo_readPart_53, if_neg (by decide), b_Mo_readPart_57, b_Mo_readPart_62, if_pos rfl, b_Mo_readPart_67, b_Mo_readPart_72, if_neg (by decide), b_Mo_readPart_76 hg, a4, hwt hs2, ew, lN_i, b_Mo_readPart_85]
    refine ⟨k_89 hg, ?_⟩
    refine c_leafX (b := true) hg hT hp hX hlv (by omega) ?_ ?_
    · intro _ hl I1 J1 g1
      simp only [exV, true_and]
      rw [b_Mo_readPart_88]
      rw [if_pos hl, if_pos q1] at h3
      exact h3 _ rfl I1 J1 g1
    · intro hb I1 J1 g1
      have hl : ¬ lv < 50 := fun y => hb ⟨rfl, y⟩
      simp only [exV, true_and]
      rw [b_Mo_readPart_88]
      rw [if_neg hl] at h4
      exact h4 _ rfl I1 J1 g1
  · have to45 : ∀ X Y : Prop, (sr B n p = 2 → X = Y) → (if sr B n p = 2 then X else Y) = Y := fun X Y h => by
      by_cases y : sr B n p = 2
      · rw [if_pos y]; exact h y
      · rw [if_neg y]
    rw [to45 _ _ (fun e => by
      have hv1 : ¬ nv B n p ≤ 1000 := fun y => q1 ⟨hdig.1 e, y⟩
      rw [b_Mo_readPart_30 hg, a4, hwt e, if_pos ((lN_lt (by omega) (by omega)).2 (by omega))]), b_Mo_readPart_45, b_Mo_readPart_46]
    by_cases q2 : 259 ≤ tk B n p ∧ tk B n p ≤ 266
    · have hlt := tk_ne (n := n) (p := p) hB rfl (show tk B n p ≠ 256 by omega)
      have hle := le_le (B := B) hp
      have ept : ptI (tk B n p) = nI (tk B n p - 258) := if_pos q2
      have hne : ¬ nI (tk B n p - 258) = (-1 : Int32) := nI_m1 (by omega)
      rw [ept, if_neg hne, b_Mo_readPart_57, b_Mo_readPart_62, if_neg hne, b_Mo_readPart_71, b_Mo_readPart_72, if_pos rfl, b_Mo_readPart_84, b_Mo_readPart_85]
      refine ⟨k_89 hg, ?_⟩
      refine c_leafX (b := true) hg hT hp hX hlv (by omega) ?_ ?_
      · intro _ hl I1 J1 g1
        simp only [exV, true_and]
        rw [b_Mo_readPart_88]
        rw [if_pos hl, if_neg q1, if_pos q2] at h3
        have g1 : RX B n I0 J0 (le B n p) (lv + 1) o q (c ++ [(tk B n p - 259 + 1, 0)]) I1 J1 := by rw [show tk B n p - 259 + 1 = tk B n p - 258 by omega]; exact g1
        exact h3 _ rfl I1 J1 g1
      · intro hb I1 J1 g1
        have hl : ¬ lv < 50 := fun y => hb ⟨rfl, y⟩
        simp only [exV, true_and]
        rw [b_Mo_readPart_88]
        rw [if_neg hl] at h4
        exact h4 _ rfl I1 J1 g1
    · have ept : ptI (tk B n p) = (-1 : Int32) := if_neg q2
      rw [ept, if_pos rfl, b_Mo_readPart_53, if_pos rfl, b_Mo_readPart_61, b_Mo_readPart_62, if_pos rfl, b_Mo_readPart_67, b_Mo_readPart_72, if_pos rfl, b_Mo_readPart_84, b_Mo_readPart_85]
      refine ⟨k_89 hg, ?_⟩
      by_cases hc : c.length < 400
      · refine c_leafX (b := false) hg hT hp hX hlv hc ?_ ?_
        · intro hb; cases hb
        · intro hb I1 J1 g1
          simp only [exV, true_and]
          rw [b_Mo_readPart_88]
          refine h4 (ls B n p) ?_ I1 J1 g1
          by_cases hl : lv < 50
          · rw [if_pos hl, if_neg q1, if_neg q2]
          · rw [if_neg hl]
      · -- nothing can be emitted
        rw [show nI 0 = bi false from rfl, e_Mo_leaf, b_Mo_leaf_0, if_pos bi_F, b_Mo_leaf_18, b_Mo_leaf_19 hg]
        refine c_mustX (b := false) hg hT hp hX (fun y => by cases y) (fun _ I1 J1 g1 => ?_)
        simp only [exV, true_and]
        rw [b_Mo_leaf_22 hg, g1.2.2.1, if_neg (by decide), b_Mo_leaf_45]
        simp only [exV, true_and]
        rw [b_Mo_readPart_88]
        refine h4 (ls B n p) ?_ I1 J1 g1
        by_cases hl : lv < 50
        · rw [if_pos hl, if_neg q1, if_neg q2]
        · rw [if_neg hl]
theorem c_mPlain (hg : Geo g) (hT : TP B n I0 J0) (hp : p ≤ n) (hX : RX B n I0 J0 p lv o q c I J) (ho : o ≤ 8) (hlv : lv ≤ 50) (hs : q.length + c.length ≤ p) (hn0 : tk B n p = 276 → ∀ I' J', RX B n I0 J0 (le B n p) lv o ((27, 0) :: q) c I' J' → Q (some (.int (nI 0))) (g, I', J')) (hr1 : tk B n p = 40 → o < 8 → ∀ I' J', RX B n I0 J0 (le B n p) lv (o + 1) ((30, 0) :: q) c I' J' → Q (some (.int (nI 0))) (g, I', J')) (hr2 : tk B n p = 40 → ¬ o < 8 → ∀ I' J', BX I0 J0 (ls B n p) q c I' J' → Q (some (.int (nI 0))) (g, I', J')) (hp0 : tk B n p ≠ 276 → tk B n p ≠ 40 → ∀ Q' : aQ, (∀ i h, Q (some (.int i)) h → Q' (some (.int i)) h) → a_call aTab aMX (d + 5) m_Mo_readPart [.ref 89] (g, I, J) Q') : a_call aTab aMX (d + 6) m_Mo_readPlain [.ref 89] (g, I, J) Q := by
  have hB := hT.1
  have hn := hT.2.1
  have hle := le_le (B := B) hp
  rw [e_Mo_readPlain, b_Mo_readPlain_0 hg, wh_not, c_isWordX hg hB hX.1 (by decide)]
  simp only [exI]
  rw [b_Mo_readPlain_7]
  by_cases z : tk B n p = 276
  · have hlt := tk_ne (n := n) (p := p) hB z (by decide)
    rw [decide_eq_true z, if_neg (by decide), b_Mo_readPlain_10 hg]
    refine c_push hg hX.2.2.2.2.2.2.2 (by omega) ?_
    intro I1 k1 k2
    simp only [exV, true_and]
    rw [b_Mo_readPlain_17 hg]
    refine c_nextX hg hT hp (RX_S hX k1 k2) ?_
    intro I2 J2 g1
    simp only [exV, true_and]
    rw [b_Mo_readPlain_21]
    exact hn0 z I2 J2 g1
  rw [decide_eq_false z, if_pos bi_F, b_Mo_readPlain_23 hg, c_isSignX hg hB hX.1 (by decide) (by decide) (by decide)]
  simp only [exI]
  rw [b_Mo_readPlain_29]
  by_cases z2 : tk B n p = 40
  · have hlt := tk_ne (n := n) (p := p) hB z2 (by decide)
    rw [decide_eq_true z2, if_neg (by decide), b_Mo_readPlain_32 hg]
    refine c_openX hg hT hp hX ho (by omega) ?_ ?_
    · intro hb I1 J1 g1
      simp only [exV, true_and]
      rw [b_Mo_readPlain_38]
      exact hr1 z2 hb I1 J1 g1
    · intro hb I1 J1 g1
      simp only [exV, true_and]
      rw [b_Mo_readPlain_38]
      exact hr2 z2 hb I1 J1 g1
  · rw [decide_eq_false z2, if_pos bi_F, b_Mo_readPlain_40 hg]
    refine hp0 z z2 _ (fun i h w => ?_)
    obtain ⟨g', I', J'⟩ := h
    simp only [exI]
    rw [b_Mo_readPlain_44]
    exact w
end MR2
