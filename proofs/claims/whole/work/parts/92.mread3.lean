/-! ===== the reference reads expressions: behind a sum, behind a test ===== -/
theorem inn_v {q : List (Nat × Nat)} (hV : PV q) : inn q = none ∨ inn q = some 30 ∨ inn q = some 31 := by
  induction q with
  | nil => exact Or.inl rfl
  | cons x q ih =>
    have hx := hV x List.mem_cons_self
    by_cases h : 30 ≤ x.1
    · have e : inn (x :: q) = some x.1 := if_pos h
      rw [e]
      have : x.1 = 30 ∨ x.1 = 31 := by omega
      rcases this with w | w
      · exact Or.inr (Or.inl (by rw [w]))
      · exact Or.inr (Or.inr (by rw [w]))
    · have e : inn (x :: q) = inn q := if_neg h
      rw [e]
      exact ih (fun y hy => hV y (List.mem_cons_of_mem _ hy))
theorem SC_pop {I : Nat → Nat → Int32} {q c : List (Nat × Nat)} {o : Nat} (hS : SC q c I) (hq : q ≠ []) (ho : 1 ≤ o) (h24 : I 89 24 = nI o) : SC q.tail c (u2 (u2 I 89 23 (I 89 23 - nI 1)) 89 24 (u2 I 89 23 (I 89 23 - nI 1) 89 24 - nI 1)) ∧ u2 (u2 I 89 23 (I 89 23 - nI 1)) 89 24 (u2 I 89 23 (I 89 23 - nI 1) 89 24 - nI 1) 89 24 = nI (o - 1) := by
  obtain ⟨s1, s2, s3, s4⟩ := hS
  cases q with
  | nil => exact absurd rfl hq
  | cons x q =>
    refine ⟨⟨?_, ?_, ?_, ?_⟩, ?_⟩
    · rw [u2_k (by decide), u2_s, s1, List.length_cons, nsub (by omega), Nat.add_sub_cancel]; rfl
    · rw [u2_r (by decide), u2_r (by decide), u2_r (by decide), u2_r (by decide)]; exact s2.2.2
    · rw [u2_k (by decide), u2_k (by decide)]; exact s3
    · rw [u2_r (by decide), u2_r (by decide), u2_r (by decide), u2_r (by decide)]; exact s4
    · rw [u2_s, u2_k (by decide), h24, nsub ho]
section MR3
variable {d : Nat} {g : aG} {I : Nat → Nat → Int32} {J : Nat → Nat → Int64} {Q : aQ} {B : Nat → Nat} {n : Nat} {I0 : Nat → Nat → Int32} {J0 : Nat → Nat → Int64} {p lv o : Nat} {q c : List (Nat × Nat)}
theorem RX_pop {I1 : Nat → Nat → Int32} {J1 : Nat → Nat → Int64} {o2 : Nat} (hX : RX B n I0 J0 p lv o q c I1 J1) (hq : q ≠ []) (ho : 1 ≤ o) (e : o2 = o - 1) : RX B n I0 J0 p lv o2 q.tail c (u2 (u2 I1 89 23 (I1 89 23 - nI 1)) 89 24 (u2 I1 89 23 (I1 89 23 - nI 1) 89 24 - nI 1)) J1 := by
  obtain ⟨⟨a1, a2, a3, a4⟩, y2, y3, y4, y5, y6, y7, y8⟩ := hX
  obtain ⟨k1, k2⟩ := SC_pop y8 hq ho y7
  have f : ∀ k, k ≠ 23 → k ≠ 24 → u2 (u2 I1 89 23 (I1 89 23 - nI 1)) 89 24 (u2 I1 89 23 (I1 89 23 - nI 1) 89 24 - nI 1) 89 k = I1 89 k := fun k h1 h2 => by rw [u2_k h2, u2_k h1]
  refine ⟨⟨by rw [f 9 (by decide) (by decide)]; exact a1, by rw [f 10 (by decide) (by decide)]; exact a2, by rw [f 11 (by decide) (by decide)]; exact a3, a4⟩, XE_u (XE_u y2 (by omega)) (by omega), y3, by rw [f 14 (by decide) (by decide)]; exact y4, by rw [f 13 (by decide) (by decide)]; exact y5, by rw [f 20 (by decide) (by decide)]; exact y6, by rw [k2, e], k1⟩
theorem c_behindSum (hg : Geo g) (hT : TP B n I0 J0) (hp : p ≤ n) (hX : RX B n I0 J0 p lv o q c I J) (hV : PV q) (hs : q.length + c.length ≤ p) (ho1 : inn q ≠ none → 1 ≤ o) (ho8 : o ≤ 8) {te : Bool}
    (hA : ∀ o', (oS (tk B n p) = some o' ∨ oT (tk B n p) = some o') → ∀ I' J', RX B n I0 J0 (le B n p) lv o ((o' + 18, 0) :: (stl (bnd (o' + 18)) q c).1) (stl (bnd (o' + 18)) q c).2 I' J' → Q (some (.int (nI 1))) (g, I', J'))
    (hB1 : oS (tk B n p) = none → oT (tk B n p) = none → inn q = some 31 → tk B n p = 93 → ∀ I' J', RX B n I0 J0 (le B n p) lv (o - 1) (stl 5 q c).1.tail (stl 5 q c).2 I' J' → Q (some (.int (nI 3))) (g, I', J'))
    (hB0 : oS (tk B n p) = none → oT (tk B n p) = none → inn q = some 31 → tk B n p ≠ 93 → ∀ I' J', BX I0 J0 (ls B n p) q c I' J' → Q (some (.int (nI 3))) (g, I', J'))
    (hC : oS (tk B n p) = none → oT (tk B n p) = none → inn q = none → te = false → Q (some (.int (nI 4))) (g, I, J))
    (hD : oS (tk B n p) = none → oT (tk B n p) = none → inn q ≠ some 31 → ¬ (inn q = none ∧ te = false) → cmpd q = true → Q (some (.int (nI 2))) (g, I, J))
    (hE1 : oS (tk B n p) = none → oT (tk B n p) = none → inn q ≠ some 31 → ¬ (inn q = none ∧ te = false) → cmpd q = false → ∀ o', oC (tk B n p) = some o' → ∀ I' J', RX B n I0 J0 (le B n p) lv o ((o' + 18, 0) :: (stl 5 q c).1) (stl 5 q c).2 I' J' → Q (some (.int (nI 1))) (g, I', J'))
    (hE0 : oS (tk B n p) = none → oT (tk B n p) = none → inn q ≠ some 31 → ¬ (inn q = none ∧ te = false) → cmpd q = false → oC (tk B n p) = none → ∀ I' J', BX I0 J0 (ls B n p) q c I' J' → Q (some (.int (nI 1))) (g, I', J')) : a_call aTab aMX (d + 5) m_Mo_behindSum [.ref 89, .int (bi te)] (g, I, J) Q := by
  have hB := hT.1
  have hn := hT.2.1
  have hle := le_le (B := B) hp
  have sl5 := stl_len (l := 5) q c
  -- an operation
  have op : ∀ o', 2 ≤ o' → o' ≤ 5 → (oS (tk B n p) = some o' ∨ oT (tk B n p) = some o') → a_wp aTab aMX (d + 4) m_Mo_behindSum 57 [.ref 89, .int (bi te), aU, aU] [.int (nI (o' + 18))] (g, I, J) Q := by
    intro o' h2 h5 ho
    have hlt : p < le B n p := by
      refine tk_ne (n := n) (p := p) hB rfl ?_
      rcases ho with e | e
      · exact (oS_o e).2.2
      · exact (oT_o e).2.2
    have hbl := bnd_le (o' + 18)
    have sl := stl_len (l := bnd (o' + 18)) q c
    rw [b_Mo_behindSum_57, if_neg (nI_m1 (by omega)), b_Mo_behindSum_63, c_binds (by omega)]
    simp only [exI]
    rw [b_Mo_behindSum_68 hg]
    refine c_settleC hg hbl hX.2.2.2.2.2.2.2 hV (by omega) ?_
    intro I1 k1 k2
    have X1 := RX_S hX k1 k2
    simp only [exV, true_and]
    rw [b_Mo_behindSum_71 hg]
    refine c_push hg k2 (by omega) ?_
    intro I2 k3 k4
    have X2 := RX_S X1 k3 k4
    simp only [exV, true_and]
    rw [b_Mo_behindSum_77 hg]
    refine c_nextX hg hT hp X2 ?_
    intro I3 J3 X3
    simp only [exV, true_and]
    rw [b_Mo_behindSum_81]
    exact hA o' ho I3 J3 X3
  rw [e_Mo_behindSum, b_Mo_behindSum_0 hg, c_isSignX hg hB hX.1 (by decide) (by decide) (by decide)]
  simp only [exI]
  rw [b_Mo_behindSum_6]
  by_cases z1 : tk B n p = 43
  · rw [decide_eq_true z1, if_neg (by decide), b_Mo_behindSum_9]
    exact op 2 (by decide) (by decide) (Or.inl (by unfold oS; rw [if_pos z1]))
  rw [decide_eq_false z1, if_pos bi_F, b_Mo_behindSum_14 hg, c_isSignX hg hB hX.1 (by decide) (by decide) (by decide)]
  simp only [exI]
  rw [b_Mo_behindSum_20]
  by_cases z2 : tk B n p = 45
  · rw [decide_eq_true z2, if_neg (by decide), b_Mo_behindSum_23]
    exact op 3 (by decide) (by decide) (Or.inl (by unfold oS; rw [if_neg z1, if_pos z2]))
  rw [decide_eq_false z2, if_pos bi_F, b_Mo_behindSum_28 hg, c_isSignX hg hB hX.1 (by decide) (by decide) (by decide)]
  simp only [exI]
  rw [b_Mo_behindSum_34]
  by_cases z3 : tk B n p = 42
  · rw [decide_eq_true z3, if_neg (by decide), b_Mo_behindSum_37]
    exact op 4 (by decide) (by decide) (Or.inr (by unfold oT; rw [if_pos z3]))
  rw [decide_eq_false z3, if_pos bi_F, b_Mo_behindSum_42 hg, c_isSignX hg hB hX.1 (by decide) (by decide) (by decide)]
  simp only [exI]
  rw [b_Mo_behindSum_48]
  by_cases z4 : tk B n p = 47
  · rw [decide_eq_true z4, if_neg (by decide), b_Mo_behindSum_51]
    exact op 5 (by decide) (by decide) (Or.inr (by unfold oT; rw [if_neg z3, if_pos z4]))
  have nS : oS (tk B n p) = none := by unfold oS; rw [if_neg z1, if_neg z2]
  have nT : oT (tk B n p) = none := by unfold oT; rw [if_neg z3, if_neg z4]
  rw [decide_eq_false z4, if_pos bi_F, b_Mo_behindSum_56, b_Mo_behindSum_57, if_pos rfl, b_Mo_behindSum_83 hg, c_inner hg hX.2.2.2.2.2.2.2 hV (by omega)]
  simp only [exI]
  rw [b_Mo_behindSum_87]
  have hin := inn_v hV
  -- comparing
  have at149 : inn q ≠ some 31 → ¬ (inn q = none ∧ te = false) → ∀ v1 v3, a_wp aTab aMX (d + 4) m_Mo_behindSum 149 [.ref 89, v1, aU, v3] [] (g, I, J) Q := by
    intro n31 nte v1 v3
    rw [b_Mo_behindSum_149 hg, c_isComp hg hX.2.2.2.2.2.2.2 hV (by omega)]
    simp only [exI]
    rw [b_Mo_behindSum_153]
    cases hcm : cmpd q
    rotate_left
    · rw [if_neg (by decide), b_Mo_behindSum_156]
      exact hD nS nT n31 nte hcm
    rw [if_pos bi_F, b_Mo_behindSum_158 hg, c_isSignX hg hB hX.1 (by decide) (by decide) (by decide)]
    simp only [exI]
    rw [b_Mo_behindSum_164]
    -- the sign is there or not
    have mu : ∀ (b : Bool) (o' : Nat), 6 ≤ o' → o' ≤ 8 → (b = true → oC (tk B n p) = some o') → (b = false → oC (tk B n p) = none) → ∀ v1 v3, a_wp aTab aMX (d + 4) m_Mo_behindSum 210 [.ref 89, v1, .int (nI (o' + 18)), v3] [.int (bi b), .ref 89] (g, I, J) Q := by
      intro b o' h6 h8 hb1 hb0 v1 v3
      rw [b_Mo_behindSum_210 hg]
      refine c_mustX hg hT hp hX ?_ ?_
      · intro hb I1 J1 X1
        have hlt : p < le B n p := tk_ne (n := n) (p := p) hB rfl (oC_o (hb1 hb)).2.2
        simp only [exV, true_and]
        rw [b_Mo_behindSum_213 hg, X1.2.2.2.1, if_pos rfl, b_Mo_behindSum_220 hg]
        refine c_settleC hg (by decide) X1.2.2.2.2.2.2.2 hV (by omega) ?_
        intro I2 k1 k2
        have X2 := RX_S X1 k1 k2
        simp only [exV, true_and]
        rw [b_Mo_behindSum_225 hg]
        refine c_push hg k2 (by omega) ?_
        intro I3 k3 k4
        simp only [exV, true_and]
        rw [b_Mo_behindSum_231]
        exact hE1 nS nT n31 nte hcm o' (hb1 hb) I3 J1 (RX_S X2 k3 k4)
      · intro hb I1 J1 X1
        simp only [exV, true_and]
        rw [b_Mo_behindSum_213 hg, X1.2.2.1, if_neg (by decide), b_Mo_behindSum_231]
        exact hE0 nS nT n31 nte hcm (hb0 hb) I1 J1 X1
    by_cases y1 : tk B n p = 60
    · rw [decide_eq_true y1, if_neg (by decide), b_Mo_behindSum_167, b_Mo_behindSum_188, if_neg (by decide), b_Mo_behindSum_205]
      exact mu true 6 (by decide) (by decide) (fun _ => by unfold oC; rw [if_pos y1]) (fun z => by cases z) _ _
    rw [decide_eq_false y1, if_pos bi_F, b_Mo_behindSum_172 hg, c_isSignX hg hB hX.1 (by decide) (by decide) (by decide)]
    simp only [exI]
    rw [b_Mo_behindSum_178]
    by_cases y2 : tk B n p = 62
    · rw [decide_eq_true y2, if_neg (by decide), b_Mo_behindSum_181, b_Mo_behindSum_188, if_neg (by decide), b_Mo_behindSum_205]
      exact mu true 7 (by decide) (by decide) (fun _ => by unfold oC; rw [if_neg y1, if_pos y2]) (fun z => by cases z) _ _
    rw [decide_eq_false y2, if_pos bi_F, b_Mo_behindSum_186, b_Mo_behindSum_188, if_pos rfl, b_Mo_behindSum_196 hg, c_isSignX hg hB hX.1 (by decide) (by decide) (by decide)]
    simp only [exI]
    rw [b_Mo_behindSum_202]
    by_cases y3 : tk B n p = 61
    · rw [decide_eq_true y3, if_neg (by decide), b_Mo_behindSum_205]
      exact mu true 8 (by decide) (by decide) (fun _ => by unfold oC; rw [if_neg y1, if_neg y2, if_pos y3]) (fun z => by cases z) _ _
    · rw [decide_eq_false y3, if_pos bi_F, b_Mo_behindSum_209]
      exact mu false 8 (by decide) (by decide) (fun z => by cases z) (fun _ => by unfold oC; rw [if_neg y1, if_neg y2, if_neg y3]) _ _
  rcases hin with e | e | e
  · rw [e, if_neg (show ¬ innI none = nI 31 by decide), b_Mo_behindSum_138, if_pos (show innI none = (-1 : Int32) from rfl), b_Mo_behindSum_143]
    cases te
    · rw [if_pos bi_F, b_Mo_behindSum_147]
      exact hC nS nT e rfl
    · rw [if_neg (by decide)]
      exact at149 (by rw [e]; decide) (fun z => by cases z.2) _ _
  · rw [e, if_neg (show ¬ innI (some 30) = nI 31 by decide), b_Mo_behindSum_138, if_neg (show ¬ innI (some 30) = (-1 : Int32) by decide)]
    exact at149 (by rw [e]; decide) (fun z => by rw [e] at z; cases z.1) _ _
  · rw [e, if_pos (show innI (some 31) = nI 31 from rfl), b_Mo_behindSum_94 hg, c_isSignX hg hB hX.1 (by decide) (by decide) (by decide)]
    simp only [exI]
    rw [b_Mo_behindSum_101 hg]
    refine c_mustX hg hT hp hX ?_ ?_
    · intro hb I1 J1 X1
      have hb := of_decide_eq_true hb
      simp only [exV, true_and]
      rw [b_Mo_behindSum_104 hg, X1.2.2.2.1, if_pos rfl, b_Mo_behindSum_111 hg]
      refine c_settleC hg (by decide) X1.2.2.2.2.2.2.2 hV (by omega) ?_
      intro I2 k1 k2
      have X2 := RX_S X1 k1 k2
      simp only [exV, true_and]
      rw [b_Mo_behindSum_116 hg, b_Mo_behindSum_136]
      have hne : (stl 5 q c).1 ≠ [] := by
        intro z
        have := inn_s (l := 5) (by decide) q c
        rw [z, e] at this
        cases this
      exact hB1 nS nT e hb _ J1 (RX_pop X2 hne (ho1 (by rw [e]; decide)) rfl)
    · intro hb I1 J1 X1
      have hb := of_decide_eq_false hb
      simp only [exV, true_and]
      rw [b_Mo_behindSum_104 hg, X1.2.2.1, if_neg (by decide), b_Mo_behindSum_136]
      exact hB0 nS nT e hb I1 J1 X1
theorem c_behindTest (hg : Geo g) (hT : TP B n I0 J0) (hp : p ≤ n) (hX : RX B n I0 J0 p lv o q c I J) (hV : PV q) (hs : q.length + c.length ≤ p) (ho1 : inn q ≠ none → 1 ≤ o)
    (hA : tk B n p = 275 → ∀ I' J', RX B n I0 J0 (le B n p) lv o ((28, (stl 2 q c).2.length) :: (stl 2 q c).1) ((stl 2 q c).2 ++ [(28, 0)]) I' J' → Q (some (.int (nI 0))) (g, I', J'))
    (hO : tk B n p = 274 → ∀ I' J', RX B n I0 J0 (le B n p) lv o ((29, (stl 1 q c).2.length) :: (stl 1 q c).1) ((stl 1 q c).2 ++ [(29, 0)]) I' J' → Q (some (.int (nI 0))) (g, I', J'))
    (hC : tk B n p ≠ 275 → tk B n p ≠ 274 → inn q = none → Q (some (.int (nI 4))) (g, I, J))
    (hB1 : tk B n p ≠ 275 → tk B n p ≠ 274 → inn q ≠ none → tk B n p = 41 → ∀ I' J', RX B n I0 J0 (le B n p) lv (o - 1) (stl 1 q c).1.tail (stl 1 q c).2 I' J' → Q (some (.int (nI 2))) (g, I', J'))
    (hB0 : tk B n p ≠ 275 → tk B n p ≠ 274 → inn q ≠ none → tk B n p ≠ 41 → ∀ I' J', BX I0 J0 (ls B n p) q c I' J' → Q (some (.int (nI 2))) (g, I', J')) : a_call aTab aMX (d + 5) m_Mo_behindTest [.ref 89] (g, I, J) Q := by
  have hB := hT.1
  have hn := hT.2.1
  have hle := le_le (B := B) hp
  have sl1 := stl_len (l := 1) q c
  have sl2 := stl_len (l := 2) q c
  rw [e_Mo_behindTest, b_Mo_behindTest_0 hg, wh_and, c_isWordX hg hB hX.1 (by decide)]
  simp only [exI]
  rw [b_Mo_behindTest_7]
  by_cases z1 : tk B n p = 275
  · have hlt := tk_ne (n := n) (p := p) hB z1 (by decide)
    rw [decide_eq_true z1, if_neg (by decide), b_Mo_behindTest_22, if_neg (by decide), b_Mo_behindTest_27, b_Mo_behindTest_32 hg]
    refine c_settleC hg (by decide) hX.2.2.2.2.2.2.2 hV (by omega) ?_
    intro I1 k1 k2
    have X1 := RX_S hX k1 k2
    simp only [exV, true_and]
    rw [b_Mo_behindTest_35, if_neg (by decide), b_Mo_behindTest_40, b_Mo_behindTest_47 hg, k2.2.2.1]
    refine c_push hg k2 (by omega) ?_
    intro I2 k3 k4
    have X2 := RX_S X1 k3 k4
    simp only [exV, true_and]
    rw [b_Mo_behindTest_54, if_neg (by decide), b_Mo_behindTest_59, b_Mo_behindTest_66 hg]
    refine c_emit hg k4 (by omega) ?_
    intro I3 k5 k6
    have X3 := RX_S X2 k5 k6
    simp only [exV, true_and]
    rw [b_Mo_behindTest_70 hg]
    refine c_nextX hg hT hp X3 ?_
    intro I4 J4 X4
    simp only [exV, true_and]
    rw [b_Mo_behindTest_74]
    exact hA z1 I4 J4 X4
  rw [decide_eq_false z1, if_pos bi_F, b_Mo_behindTest_12 hg, wh_or, c_isWordX hg hB hX.1 (by decide)]
  simp only [exI]
  rw [b_Mo_behindTest_19]
  by_cases z2 : tk B n p = 274
  · have hlt := tk_ne (n := n) (p := p) hB z2 (by decide)
    rw [decide_eq_true z2, if_neg (by decide), b_Mo_behindTest_22, if_pos bi_F, b_Mo_behindTest_31, b_Mo_behindTest_32 hg]
    refine c_settleC hg (by decide) hX.2.2.2.2.2.2.2 hV (by omega) ?_
    intro I1 k1 k2
    have X1 := RX_S hX k1 k2
    simp only [exV, true_and]
    rw [b_Mo_behindTest_35, if_pos bi_F, b_Mo_behindTest_45, b_Mo_behindTest_47 hg, k2.2.2.1]
    refine c_push hg k2 (by omega) ?_
    intro I2 k3 k4
    have X2 := RX_S X1 k3 k4
    simp only [exV, true_and]
    rw [b_Mo_behindTest_54, if_pos bi_F, b_Mo_behindTest_64, b_Mo_behindTest_66 hg]
    refine c_emit hg k4 (by omega) ?_
    intro I3 k5 k6
    have X3 := RX_S X2 k5 k6
    simp only [exV, true_and]
    rw [b_Mo_behindTest_70 hg]
    refine c_nextX hg hT hp X3 ?_
    intro I4 J4 X4
    simp only [exV, true_and]
    rw [b_Mo_behindTest_74]
    exact hO z2 I4 J4 X4
  rw [decide_eq_false z2, if_pos bi_F, b_Mo_behindTest_76 hg, c_inner hg hX.2.2.2.2.2.2.2 hV (by omega)]
  simp only [exI]
  rw [b_Mo_behindTest_80]
  by_cases e : inn q = none
  · rw [e, if_pos (show innI none = (-1 : Int32) from rfl), b_Mo_behindTest_84]
    exact hC z1 z2 e
  · have hin := inn_v hV
    have hne1 : ¬ innI (inn q) = (-1 : Int32) := by
      rcases hin with w | w | w
      · exact absurd w e
      · rw [w]; decide
      · rw [w]; decide
    rw [if_neg hne1, b_Mo_behindTest_86 hg, c_isSignX hg hB hX.1 (by decide) (by decide) (by decide)]
    simp only [exI]
    rw [b_Mo_behindTest_93 hg]
    refine c_mustX hg hT hp hX ?_ ?_
    · intro hb I1 J1 X1
      have hb := of_decide_eq_true hb
      simp only [exV, true_and]
      rw [b_Mo_behindTest_96 hg, X1.2.2.2.1, if_pos rfl, b_Mo_behindTest_103 hg]
      refine c_settleC hg (by decide) X1.2.2.2.2.2.2.2 hV (by omega) ?_
      intro I2 k1 k2
      have X2 := RX_S X1 k1 k2
      simp only [exV, true_and]
      rw [b_Mo_behindTest_108 hg, b_Mo_behindTest_128]
      have hne : (stl 1 q c).1 ≠ [] := by
        intro z
        have := inn_s (l := 1) (by decide) q c
        rw [z] at this
        exact e this.symm
      exact hB1 z1 z2 e hb _ J1 (RX_pop X2 hne (ho1 e) rfl)
    · intro hb I1 J1 X1
      have hb := of_decide_eq_false hb
      simp only [exV, true_and]
      rw [b_Mo_behindTest_96 hg, X1.2.2.1, if_neg (by decide), b_Mo_behindTest_128]
      exact hB0 z1 z2 e hb I1 J1 X1
end MR3
