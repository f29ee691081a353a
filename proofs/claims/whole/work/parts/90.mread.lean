/-! ===== the reference reads expressions: its steps ===== -/
def RX (B : Nat → Nat) (n : Nat) (I0 : Nat → Nat → Int32) (J0 : Nat → Nat → Int64) (p lv o : Nat) (q c : List (Nat × Nat)) (I : Nat → Nat → Int32) (J : Nat → Nat → Int64) : Prop := RA B n p I J ∧ XE I0 I ∧ XNJ J0 J ∧ I 89 14 = nI 0 ∧ I 89 13 = I0 89 13 ∧ I 89 20 = nI lv ∧ I 89 24 = nI o ∧ SC q c I
def BX (I0 : Nat → Nat → Int32) (J0 : Nat → Nat → Int64) (f : Nat) (q c : List (Nat × Nat)) (I : Nat → Nat → Int32) (J : Nat → Nat → Int64) : Prop := XE I0 I ∧ XNJ J0 J ∧ I 89 14 = nI 1 ∧ I 89 13 = nI f ∧ SC q c I
def TP (B : Nat → Nat) (n : Nat) (I0 : Nat → Nat → Int32) (J0 : Nat → Nat → Int64) : Prop := (∀ i, B i ≤ 255) ∧ n ≤ 400 ∧ (∀ i, i < n → I0 94 i = nI (B i)) ∧ I0 89 8 = nI n ∧ ∀ k, k < 8 → J0 100 k = lN (wh k)
theorem SC_N {I I' : Nat → Nat → Int32} {q c : List (Nat × Nat)} (h : ∀ a k, (96 ≤ a ∧ a ≤ 99) ∨ (a = 89 ∧ (k = 17 ∨ k = 23)) → I' a k = I a k) (hS : SC q c I) : SC q c I' := by
  unfold SC at hS ⊢
  rw [h 89 23 (by omega), h 89 17 (by omega), show I' 98 = I 98 from funext (fun k => h 98 k (by omega)), show I' 99 = I 99 from funext (fun k => h 99 k (by omega)), show I' 96 = I 96 from funext (fun k => h 96 k (by omega)), show I' 97 = I 97 from funext (fun k => h 97 k (by omega))]
  exact hS
theorem XNJ_t {J J' J2 : Nat → Nat → Int64} (h1 : XNJ J J') (h2 : XNJ J' J2) : XNJ J J2 := fun a k h3 => (h2 a k h3).trans (h1 a k h3)
/-- pile and code have changed -/
theorem RX_S {B : Nat → Nat} {n : Nat} {I0 I I' : Nat → Nat → Int32} {J0 J : Nat → Nat → Int64} {p lv o : Nat} {q c q' c' : List (Nat × Nat)} (h : RX B n I0 J0 p lv o q c I J) (hX : XS I I') (hS : SC q' c' I') : RX B n I0 J0 p lv o q' c' I' J := by
  obtain ⟨⟨a1, a2, a3, a4⟩, h2, h3, h4, h5, h6, h7, h8⟩ := h
  exact ⟨⟨by rw [hX 89 9 (by omega) (by omega)]; exact a1, by rw [hX 89 10 (by omega) (by omega)]; exact a2, by rw [hX 89 11 (by omega) (by omega)]; exact a3, a4⟩, XE_t h2 (XS_E hX), h3, by rw [hX 89 14 (by omega) (by omega)]; exact h4, by rw [hX 89 13 (by omega) (by omega)]; exact h5, by rw [hX 89 20 (by omega) (by omega)]; exact h6, by rw [hX 89 24 (by omega) (by omega)]; exact h7, hS⟩
section MRD
variable {d : Nat} {g : aG} {I : Nat → Nat → Int32} {J : Nat → Nat → Int64} {Q : aQ} {B : Nat → Nat} {n : Nat} {I0 : Nat → Nat → Int32} {J0 : Nat → Nat → Int64} {p lv o : Nat} {q c : List (Nat × Nat)}
theorem c_isWordX (hg : Geo g) (hB : ∀ i, B i ≤ 255) (hR : RA B n p I J) {j : Nat} (hj : j < 18) : a_call aTab aMX (d + 1) m_Mo_isWord [.ref 89, .long (lN (wh j))] (g, I, J) Q = Q (some (.int (bi (decide (tk B n p = 259 + j))))) (g, I, J) := by
  have h := tk_word (n := n) (p := p) hB hj
  have hsr := sr_le B n p
  rw [e_Mo_isWord, b_Mo_isWord_0 hg, hR.2.2.1, req (by omega) (by omega)]
  by_cases q1 : sr B n p = 1
  · rw [if_pos q1, b_Mo_isWord_8 hg, hR.2.2.2]
    by_cases q2 : wth B n p = lN (wh j)
    · rw [if_pos q2, b_Mo_isWord_17, b_Mo_isWord_22, decide_eq_true (h.1 ⟨q1, q2⟩)]
      simp only [exI, exJ, exV, eq_self, true_and, and_true, true_or, or_true, if_true, if_false, not_true, not_false_eq_true, false_and, and_false, decide_true, decide_false, bi_T, bi_F, bi_0, bi_1, bi_z, bft, n10, n01, Nat.reduceEqDiff, Nat.reduceLT, Nat.reduceAdd, Nat.reduceMul, reduceCtorEq]
    · rw [if_neg q2, b_Mo_isWord_21, b_Mo_isWord_22, decide_eq_false (fun z => q2 (h.2 z).2)]
      simp only [exI, exJ, exV, eq_self, true_and, and_true, true_or, or_true, if_true, if_false, not_true, not_false_eq_true, false_and, and_false, decide_true, decide_false, bi_T, bi_F, bi_0, bi_1, bi_z, bft, n10, n01, Nat.reduceEqDiff, Nat.reduceLT, Nat.reduceAdd, Nat.reduceMul, reduceCtorEq]
  · rw [if_neg q1, b_Mo_isWord_21, b_Mo_isWord_22, decide_eq_false (fun z => q1 (h.2 z).1)]
    simp only [exI, exJ, exV, eq_self, true_and, and_true, true_or, or_true, if_true, if_false, not_true, not_false_eq_true, false_and, and_false, decide_true, decide_false, bi_T, bi_F, bi_0, bi_1, bi_z, bft, n10, n01, Nat.reduceEqDiff, Nat.reduceLT, Nat.reduceAdd, Nat.reduceMul, reduceCtorEq]
theorem c_isSignX (hg : Geo g) (hB : ∀ i, B i ≤ 255) (hR : RA B n p I J) {t : Nat} (ht : t ≤ 255) (h1 : ¬ (48 ≤ t ∧ t ≤ 57)) (h2 : ¬ (97 ≤ t ∧ t ≤ 122)) : a_call aTab aMX (d + 1) m_Mo_isSign [.ref 89, .int (nI t)] (g, I, J) Q = Q (some (.int (bi (decide (tk B n p = t))))) (g, I, J) := by
  have h := tk_sign (n := n) (p := p) hB ht h1 h2
  have hsr := sr_le B n p
  rw [e_Mo_isSign, b_Mo_isSign_0 hg, hR.2.2.1, req (by omega) (by omega)]
  by_cases q1 : sr B n p = 3
  · rw [if_pos q1, b_Mo_isSign_8 hg, hR.2.2.2, nL (by omega)]
    by_cases q2 : wth B n p = lN t
    · rw [if_pos q2, b_Mo_isSign_18, b_Mo_isSign_23, decide_eq_true (h.1 ⟨q1, q2⟩)]
      simp only [exI, exJ, exV, eq_self, true_and, and_true, true_or, or_true, if_true, if_false, not_true, not_false_eq_true, false_and, and_false, decide_true, decide_false, bi_T, bi_F, bi_0, bi_1, bi_z, bft, n10, n01, Nat.reduceEqDiff, Nat.reduceLT, Nat.reduceAdd, Nat.reduceMul, reduceCtorEq]
    · rw [if_neg q2, b_Mo_isSign_22, b_Mo_isSign_23, decide_eq_false (fun z => q2 (h.2 z).2)]
      simp only [exI, exJ, exV, eq_self, true_and, and_true, true_or, or_true, if_true, if_false, not_true, not_false_eq_true, false_and, and_false, decide_true, decide_false, bi_T, bi_F, bi_0, bi_1, bi_z, bft, n10, n01, Nat.reduceEqDiff, Nat.reduceLT, Nat.reduceAdd, Nat.reduceMul, reduceCtorEq]
  · rw [if_neg q1, b_Mo_isSign_22, b_Mo_isSign_23, decide_eq_false (fun z => q1 (h.2 z).1)]
    simp only [exI, exJ, exV, eq_self, true_and, and_true, true_or, or_true, if_true, if_false, not_true, not_false_eq_true, false_and, and_false, decide_true, decide_false, bi_T, bi_F, bi_0, bi_1, bi_z, bft, n10, n01, Nat.reduceEqDiff, Nat.reduceLT, Nat.reduceAdd, Nat.reduceMul, reduceCtorEq]
theorem c_nextX (hg : Geo g) (hT : TP B n I0 J0) (hp : p ≤ n) (hX : RX B n I0 J0 p lv o q c I J) (hQ : ∀ I' J', RX B n I0 J0 (le B n p) lv o q c I' J' → Q none (g, I', J')) : a_call aTab aMX (d + 2) m_Mo_next [.ref 89] (g, I, J) Q := by
  obtain ⟨t1, t2, t3, t4, t5⟩ := hT
  obtain ⟨x1, x2, x3, x4, x5, x6, x7, x8⟩ := hX
  refine c_next hg t1 (fun i hi => by rw [x2 94 i (by omega) (by omega)]; exact t3 i hi) t2 (by rw [x2 89 8 (by omega) (by omega)]; exact t4) (le_le hp) x1.2.1 ?_
  intro I' J' g1 g2 g3
  refine hQ I' J' ⟨g3, XE_t x2 (fun a k h1 h2 => g1 a k (by omega)), XNJ_t x3 g2, ?_, ?_, ?_, ?_, SC_N (fun a k h => g1 a k (by omega)) x8⟩
  · rw [g1 89 14 (by omega)]; exact x4
  · rw [g1 89 13 (by omega)]; exact x5
  · rw [g1 89 20 (by omega)]; exact x6
  · rw [g1 89 24 (by omega)]; exact x7
theorem c_mustX (hg : Geo g) (hT : TP B n I0 J0) (hp : p ≤ n) (hX : RX B n I0 J0 p lv o q c I J) {b : Bool} (h1 : b = true → ∀ I' J', RX B n I0 J0 (le B n p) lv o q c I' J' → Q none (g, I', J')) (h0 : b = false → ∀ I' J', BX I0 J0 (ls B n p) q c I' J' → Q none (g, I', J')) : a_call aTab aMX (d + 3) m_Mo_must [.ref 89, .int (bi b)] (g, I, J) Q := by
  rw [e_Mo_must, b_Mo_must_0 hg, hX.2.2.2.1, if_pos rfl, b_Mo_must_7]
  cases b
  · rw [if_pos bi_F, b_Mo_must_11 hg, u2_k (by decide), hX.1.1, b_Mo_must_24 hg, u2_k (by decide), u2_s, if_neg (by decide), b_Mo_must_35]
    obtain ⟨x1, x2, x3, x4, x5, x6, x7, x8⟩ := hX
    refine h0 rfl _ J ⟨XE_u (XE_u x2 (by omega)) (by omega), x3, by rw [u2_k (by decide), u2_s], u2_s, SC_N (fun a k h => ?_) x8⟩
    rw [show u2 (u2 I 89 14 (nI 1)) 89 13 _ a k = u2 I 89 14 (nI 1) a k from if_neg (by omega), show u2 I 89 14 (nI 1) a k = I a k from if_neg (by omega)]
  · rw [if_neg (by decide), b_Mo_must_24 hg, hX.2.2.2.1, if_pos rfl, b_Mo_must_31 hg]
    refine c_nextX hg hT hp hX ?_
    intro I' J' g1
    simp only [exV, true_and]
    rw [b_Mo_must_35]
    exact h1 rfl I' J' g1
theorem c_openX (hg : Geo g) (hT : TP B n I0 J0) (hp : p ≤ n) (hX : RX B n I0 J0 p lv o q c I J) (ho : o ≤ 8) (hq : q.length < 400) {t : Nat} (h1 : o < 8 → ∀ I' J', RX B n I0 J0 (le B n p) lv (o + 1) ((t, 0) :: q) c I' J' → Q none (g, I', J')) (h0 : ¬ o < 8 → ∀ I' J', BX I0 J0 (ls B n p) q c I' J' → Q none (g, I', J')) : a_call aTab aMX (d + 4) m_Mo_openBracket [.ref 89, .int (nI t)] (g, I, J) Q := by
  rw [e_Mo_openBracket, b_Mo_openBracket_0 hg, hX.2.2.2.2.2.2.1, rlt (by omega) (by omega)]
  have go : a_wp aTab aMX (d + 3) m_Mo_openBracket 15 [.ref 89, .int (nI t)] [.int (bi (decide (o < 8))), .ref 89] (g, I, J) Q := by
    rw [b_Mo_openBracket_15 hg]
    refine c_mustX hg hT hp hX ?_ ?_
    · intro hb I1 J1 g1
      have hb := of_decide_eq_true hb
      simp only [exV, true_and]
      rw [b_Mo_openBracket_18 hg, g1.2.2.2.1, if_pos rfl, b_Mo_openBracket_25 hg, g1.2.2.2.2.2.2.1, nadd]
      have g2 : RX B n I0 J0 (le B n p) lv (o + 1) q c (u2 I1 89 24 (nI (o + 1))) J1 := by
        obtain ⟨⟨a1, a2, a3, a4⟩, y2, y3, y4, y5, y6, y7, y8⟩ := g1
        exact ⟨⟨by rw [u2_k (by decide)]; exact a1, by rw [u2_k (by decide)]; exact a2, by rw [u2_k (by decide)]; exact a3, a4⟩, XE_u y2 (by omega), y3, by rw [u2_k (by decide)]; exact y4, by rw [u2_k (by decide)]; exact y5, by rw [u2_k (by decide)]; exact y6, u2_s, SC_N (fun a k h => if_neg (by omega)) y8⟩
      refine c_push hg g2.2.2.2.2.2.2.2 hq ?_
      intro I2 k1 k2
      simp only [exV, true_and]
      rw [b_Mo_openBracket_41]
      exact h1 hb I2 J1 (RX_S g2 k1 k2)
    · intro hb I1 J1 g1
      have hb := of_decide_eq_false hb
      simp only [exV, true_and]
      rw [b_Mo_openBracket_18 hg, g1.2.2.1, if_neg (by decide), b_Mo_openBracket_41]
      exact h0 hb I1 J1 g1
  by_cases hb : o < 8
  · rw [if_pos hb, b_Mo_openBracket_10]
    rw [decide_eq_true hb] at go
    exact go
  · rw [if_neg hb, b_Mo_openBracket_14]
    rw [decide_eq_false hb] at go
    exact go
theorem c_leafX (hg : Geo g) (hT : TP B n I0 J0) (hp : p ≤ n) (hX : RX B n I0 J0 p lv o q c I J) (hlv : lv ≤ 50) (hc : c.length < 400) {b : Bool} {op x : Nat} (h1 : b = true → lv < 50 → ∀ I' J', RX B n I0 J0 (le B n p) (lv + 1) o q (c ++ [(op, x)]) I' J' → Q none (g, I', J')) (h0 : ¬ (b = true ∧ lv < 50) → ∀ I' J', BX I0 J0 (ls B n p) q c I' J' → Q none (g, I', J')) : a_call aTab aMX (d + 4) m_Mo_leaf [.ref 89, .int (bi b), .int (nI op), .int (nI x)] (g, I, J) Q := by
  rw [e_Mo_leaf, b_Mo_leaf_0]
  have go : ∀ b2 : Bool, (b2 = true ↔ (b = true ∧ lv < 50)) → ∀ v1, a_wp aTab aMX (d + 3) m_Mo_leaf 19 [.ref 89, v1, .int (nI op), .int (nI x)] [.int (bi b2), .ref 89] (g, I, J) Q := by
    intro b2 hb2 v1
    rw [b_Mo_leaf_19 hg]
    refine c_mustX hg hT hp hX ?_ ?_
    · intro hb I1 J1 g1
      have hb := hb2.1 hb
      simp only [exV, true_and]
      rw [b_Mo_leaf_22 hg, g1.2.2.2.1, if_pos rfl, b_Mo_leaf_29 hg]
      refine c_emit hg g1.2.2.2.2.2.2.2 hc ?_
      intro I2 k1 k2
      have g2 := RX_S g1 k1 k2
      simp only [exV, true_and]
      rw [b_Mo_leaf_35 hg, g2.2.2.2.2.2.1, nadd, b_Mo_leaf_45]
      refine h1 hb.1 hb.2 _ J1 ?_
      obtain ⟨⟨a1, a2, a3, a4⟩, y2, y3, y4, y5, y6, y7, y8⟩ := g2
      exact ⟨⟨by rw [u2_k (by decide)]; exact a1, by rw [u2_k (by decide)]; exact a2, by rw [u2_k (by decide)]; exact a3, a4⟩, XE_u y2 (by omega), y3, by rw [u2_k (by decide)]; exact y4, by rw [u2_k (by decide)]; exact y5, u2_s, by rw [u2_k (by decide)]; exact y7, SC_N (fun a k h => if_neg (by omega)) y8⟩
    · intro hb I1 J1 g1
      simp only [exV, true_and]
      rw [b_Mo_leaf_22 hg, g1.2.2.1, if_neg (by decide), b_Mo_leaf_45]
      exact h0 (fun z => by rw [hb2.2 z] at hb; cases hb) I1 J1 g1
  cases b
  · rw [if_pos bi_F, b_Mo_leaf_18]
    exact go false ⟨fun z => (by cases z), fun z => (by cases z.1)⟩ _
  · rw [if_neg (by decide), b_Mo_leaf_5 hg, hX.2.2.2.2.2.1, rlt (by omega) (by omega)]
    by_cases hl : lv < 50
    · rw [if_pos hl, b_Mo_leaf_14]
      exact go true ⟨fun _ => ⟨rfl, hl⟩, fun _ => rfl⟩ _
    · rw [if_neg hl, b_Mo_leaf_18]
      exact go false ⟨fun z => (by cases z), fun z => absurd z.2 hl⟩ _
def ptI (t : Nat) : Int32 := if 259 ≤ t ∧ t ≤ 266 then nI (t - 258) else -1
theorem c_partAt (hg : Geo g) (hT : TP B n I0 J0) (hX : RX B n I0 J0 p lv o q c I J) : a_call aTab aMX (d + 2) m_Mo_partAt [.ref 89] (g, I, J) Q = Q (some (.int (ptI (tk B n p)))) (g, I, J) := by
  apply propext
  rw [e_Mo_partAt, b_Mo_partAt_0]
  have hw : ∀ k, k < 8 → J 100 k = lN (wh k) := fun k hk => by rw [hX.2.2.1 100 k (by omega)]; exact hT.2.2.2.2 k hk
  have key : ∀ k, k ≤ 8 → (a_wp aTab aMX (d + 1) m_Mo_partAt 4 [.ref 89, .int (if 259 ≤ tk B n p ∧ tk B n p < 259 + k then nI (tk B n p - 258) else -1), .int (nI k)] [] (g, I, J) Q ↔ Q (some (.int (ptI (tk B n p)))) (g, I, J)) := by
    refine dn ?_ ?_
    · rw [b_Mo_partAt_4, rlf (by omega) (by omega) (by omega), b_Mo_partAt_37]
      have : (if 259 ≤ tk B n p ∧ tk B n p < 259 + 8 then nI (tk B n p - 258) else -1) = ptI (tk B n p) := by
        unfold ptI
        by_cases z : 259 ≤ tk B n p ∧ tk B n p ≤ 266
        · rw [if_pos z, if_pos (by omega)]
        · rw [if_neg z, if_neg (by omega)]
      rw [this]
    · intro k hk ih
      rw [b_Mo_partAt_4, rlt2 (by omega) (by omega) hk, b_Mo_partAt_10 hg, ncl (by omega), hw k hk, c_isWordX hg hT.1 hX.1 (by omega)]
      simp (disch := omega) only [nvi, true_and, exI]
      rw [b_Mo_partAt_20]
      by_cases z : tk B n p = 259 + k
      · rw [decide_eq_true z, if_neg (by decide), b_Mo_partAt_23, nadd, b_Mo_partAt_30, nadd]
        rw [if_pos (by omega), show tk B n p - 258 = k + 1 by omega] at ih
        exact ih
      · rw [decide_eq_false z, if_pos bi_F, b_Mo_partAt_29, b_Mo_partAt_30, nadd]
        by_cases y : 259 ≤ tk B n p ∧ tk B n p < 259 + k
        · rw [if_pos y]
          rw [if_pos (by omega)] at ih
          exact ih
        · rw [if_neg y]
          rw [if_neg (by omega)] at ih
          exact ih
  have := key 0 (by omega)
  rw [if_neg (by omega)] at this
  exact this
end MRD
