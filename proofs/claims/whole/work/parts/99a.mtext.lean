/-! ===== the reference reads a text: moves ===== -/
def ZE (B : Nat → Nat) (n p lv : Nat) (c : List (Nat × Nat)) (I : Nat → Nat → Int32) (J : Nat → Nat → Int64) : Prop := TP B n I J ∧ RA B n p I J ∧ I 89 14 = nI 0 ∧ I 89 20 = nI lv ∧ I 89 17 = nI c.length ∧ cdh c (I 96) (I 97)
def LWm (l : List aLw) (I : Nat → Nat → Int32) : Prop := ∀ i w, l[i]? = some w → I 95 (8 * i) = nI (w.1 - 1) ∧ I 95 (8 * i + 3) = nI w.2.2.1.1 ∧ I 95 (8 * i + 4) = nI w.2.2.1.2.1 ∧ I 95 (8 * i + 5) = nI w.2.2.1.2.1 ∧ I 95 (8 * i + 6) = nI w.2.2.1.2.2
def MVm (l : List aMv) (I : Nat → Nat → Int32) : Prop := ∀ i w, l[i]? = some w → I 101 (7 * i) = nI w.1 ∧ I 101 (7 * i + 1) = nI w.2.1 ∧ I 101 (7 * i + 2) = nI w.2.2.1 ∧ I 101 (7 * i + 3) = nI (if 0 < w.2.2.2.2.2 then 1 else 0) ∧ I 101 (7 * i + 4) = nI w.2.2.2.1 ∧ I 101 (7 * i + 5) = nI w.2.2.2.2.1 ∧ I 101 (7 * i + 6) = nI w.2.2.2.2.2
def MT (B : Nat → Nat) (n k : Nat) (s : aT) (I : Nat → Nat → Int32) (J : Nat → Nat → Int64) : Prop := ZE B n s.1 s.2.1 s.2.2.2.1 I J ∧ I 89 28 = nI k ∧ I 89 15 = nI s.2.2.2.2.2.length ∧ I 89 27 = nI s.2.2.2.2.1.length ∧ LWm s.2.2.2.2.2 I ∧ MVm s.2.2.2.2.1 I
def XTX (I I' : Nat → Nat → Int32) : Prop := ∀ a k, ¬ (95 ≤ a ∧ a ≤ 101) → ¬ (a = 89 ∧ 9 ≤ k ∧ k ≤ 28) → I' a k = I a k
theorem XTX_r (I : Nat → Nat → Int32) : XTX I I := fun _ _ _ _ => rfl
theorem XTX_t {I I' I2 : Nat → Nat → Int32} (h1 : XTX I I') (h2 : XTX I' I2) : XTX I I2 := fun a k h3 h4 => (h2 a k h3 h4).trans (h1 a k h3 h4)
theorem XTX_u {I I' : Nat → Nat → Int32} {a k : Nat} {v : Int32} (h : XTX I I') (h1 : (95 ≤ a ∧ a ≤ 101) ∨ (a = 89 ∧ 9 ≤ k ∧ k ≤ 28)) : XTX I (u2 I' a k v) := by
  intro b j h3 h4
  rw [show u2 I' a k v b j = I' b j from if_neg (by rintro ⟨rfl, rfl⟩; exact h1.elim h3 h4)]
  exact h b j h3 h4
theorem XN_X {I I' : Nat → Nat → Int32} (h : XN I I') : XTX I I' := fun a k _ h4 => h a k (by omega)
theorem XE_X {I I' : Nat → Nat → Int32} (h : XE I I') : XTX I I' := fun a k h3 h4 => h a k (by omega) (by omega)
theorem XN_t {I I' I2 : Nat → Nat → Int32} (h1 : XN I I') (h2 : XN I' I2) : XN I I2 := fun a k h4 => (h2 a k h4).trans (h1 a k h4)
section MTX
variable {d : Nat} {g : aG} {B : Nat → Nat} {n : Nat} {I : Nat → Nat → Int32} {J : Nat → Nat → Int64} {Q : aQ} {p lv : Nat} {c : List (Nat × Nat)}
theorem TP_x {I' : Nat → Nat → Int32} {J' : Nat → Nat → Int64} (h : TP B n I J) (h1 : XTX I I') (h2 : XNJ J J') : TP B n I' J' := by
  obtain ⟨t1, t2, t3, t4, t5⟩ := h
  exact ⟨t1, t2, fun i hi => by rw [h1 94 i (by omega) (by omega)]; exact t3 i hi, by rw [h1 89 8 (by omega) (by omega)]; exact t4, fun k hk => by rw [h2 100 k (by omega)]; exact t5 k hk⟩
theorem c_nextZ (hg : Geo g) (hp : p ≤ n) (h : ZE B n p lv c I J) (hQ : ∀ I' J', XN I I' → XNJ J J' → ZE B n (le B n p) lv c I' J' → Q none (g, I', J')) : a_call aTab aMX (d + 2) m_Mo_next [.ref 89] (g, I, J) Q := by
  obtain ⟨⟨t1, t2, t3, t4, t5⟩, z2, z3, z4, z5, z6⟩ := h
  refine c_next hg t1 t3 t2 t4 (le_le hp) z2.2.1 ?_
  intro I' J' g1 g2 g3
  refine hQ I' J' g1 g2 ⟨TP_x ⟨t1, t2, t3, t4, t5⟩ (XN_X g1) g2, g3, ?_, ?_, ?_, ?_⟩
  · rw [g1 89 14 (by omega)]; exact z3
  · rw [g1 89 20 (by omega)]; exact z4
  · rw [g1 89 17 (by omega)]; exact z5
  · rw [show I' 96 = I 96 from funext (fun j => g1 96 j (by omega)), show I' 97 = I 97 from funext (fun j => g1 97 j (by omega))]; exact z6
theorem c_mustZ (hg : Geo g) (hp : p ≤ n) (h : ZE B n p lv c I J) {b : Bool} (h1 : b = true → ∀ I' J', XN I I' → XNJ J J' → ZE B n (le B n p) lv c I' J' → Q none (g, I', J')) (h0 : b = false → Q none (g, u2 (u2 I 89 14 (nI 1)) 89 13 (nI (ls B n p)), J)) : a_call aTab aMX (d + 3) m_Mo_must [.ref 89, .int (bi b)] (g, I, J) Q := by
  rw [e_Mo_must, b_Mo_must_0 hg, h.2.2.1, if_pos rfl, b_Mo_must_7]
  cases b
  · rw [if_pos bi_F, b_Mo_must_11 hg, u2_k (by decide), h.2.1.1, b_Mo_must_24 hg, u2_k (by decide), u2_s, if_neg (by decide), b_Mo_must_35]
    exact h0 rfl
  · rw [if_neg (by decide), b_Mo_must_24 hg, h.2.2.1, if_pos rfl, b_Mo_must_31 hg]
    refine c_nextZ hg hp h ?_
    intro I' J' g1 g2 g3
    simp only [exV, true_and]
    rw [b_Mo_must_35]
    exact h1 rfl I' J' g1 g2 g3
theorem c_mustB (hg : Geo g) (h : I 89 14 = nI 1) {x : Int32} : a_call aTab aMX (d + 1) m_Mo_must [.ref 89, .int x] (g, I, J) Q = Q none (g, I, J) := by
  rw [e_Mo_must, b_Mo_must_0 hg, h, if_neg (by decide), b_Mo_must_24 hg, h, if_neg (by decide), b_Mo_must_35]
theorem c_numZ (hg : Geo g) (hp : p ≤ n) (h : ZE B n p lv c I J) {lo hi : Nat} (hlo : lo ≤ 1000) (hhi : hi ≤ 1000) (h1 : ∀ w, pNum B n lo hi p = .inr w → ∀ I' J', XN I I' → XNJ J J' → ZE B n w.1 lv c I' J' → Q (some (.int (nI w.2))) (g, I', J')) (h0 : ∀ q, pNum B n lo hi p = .inl q → ∀ v, Q (some (.int v)) (g, u2 (u2 I 89 14 (nI 1)) 89 13 (nI q), J)) : a_call aTab aMX (d + 4) m_Mo_number [.ref 89, .long (lN lo), .long (lN hi)] (g, I, J) Q := by
  have hB := h.1.1
  have hsr := sr_le B n p
  have hdig := tk_dig (n := n) (p := p) hB
  have hv := vv_ww B (ls B n p) (de B n p - ls B n p)
  have env : nv B n p = min 100000 (ww B (ls B n p) (de B n p - ls B n p)) := hv
  have hwl := ww_le (s := ls B n p) hB (de B n p - ls B n p)
  have hwt : sr B n p = 2 → wth B n p = lN (ww B (ls B n p) (de B n p - ls B n p)) := fun e => by
    unfold wth
    rw [e, if_neg (by decide), if_pos rfl]
  unfold pNum at h1 h0
  have fin : ∀ b : Bool, (b = true ↔ (tk B n p = 257 ∧ lo ≤ nv B n p ∧ nv B n p ≤ hi)) → ∀ v0 v1 v3, a_wp aTab aMX (d + 3) m_Mo_number 33 [v0, v1, aU, v3, aU, .int ((J 89 12).toInt32)] [.int (bi b), .ref 89] (g, I, J) Q := by
    intro b hb v0 v1 v3
    rw [b_Mo_number_33 hg]
    refine c_mustZ hg hp h ?_ ?_
    · intro hbt I' J' g1 g2 g3
      have q := hb.1 hbt
      have hs2 := hdig.2 q.1
      simp only [exV, true_and]
      rw [b_Mo_number_36]
      rw [if_pos q] at h1
      rw [h.2.1.2.2.2, hwt hs2, show ww B (ls B n p) (de B n p - ls B n p) = nv B n p by omega, lN_i]
      exact h1 _ rfl I' J' g1 g2 g3
    · intro hbf
      have q : ¬ (tk B n p = 257 ∧ lo ≤ nv B n p ∧ nv B n p ≤ hi) := fun z => by rw [hb.2 z] at hbf; cases hbf
      simp only [exV, true_and]
      rw [b_Mo_number_36]
      rw [if_neg q] at h0
      exact h0 _ rfl _
  rw [e_Mo_number, b_Mo_number_0 hg, h.2.1.2.2.1, req (by omega) (by omega)]
  by_cases q1 : sr B n p = 2
  · rw [if_pos q1, b_Mo_number_16 hg, c_in, h.2.1.2.2.2, hwt q1]
    simp only [exI]
    rw [b_Mo_number_25]
    by_cases q2 : ¬ lN (ww B (ls B n p) (de B n p - ls B n p)) < lN lo ∧ ¬ lN hi < lN (ww B (ls B n p) (de B n p - ls B n p))
    · rw [decide_eq_true q2, if_neg (by decide), b_Mo_number_28]
      rw [lN_lt (by omega) (by omega), lN_lt (by omega) (by omega)] at q2
      have := fin true ⟨fun _ => ⟨hdig.1 q1, by omega, by omega⟩, fun _ => rfl⟩
      rw [h.2.1.2.2.2, hwt q1] at this
      exact this _ _ _
    · rw [decide_eq_false q2, if_pos bi_F, b_Mo_number_32]
      rw [lN_lt (by omega) (by omega), lN_lt (by omega) (by omega)] at q2
      have := fin false ⟨fun z => (by cases z), fun z => absurd (by omega) q2⟩
      rw [h.2.1.2.2.2, hwt q1] at this
      exact this _ _ _
  · rw [if_neg q1, b_Mo_number_32]
    exact fin false ⟨fun z => (by cases z), fun z => absurd (hdig.2 z.1) q1⟩ _ _ _
theorem c_numB (hg : Geo g) (h : I 89 14 = nI 1) {x y : Int64} (hQ : ∀ v, Q (some (.int v)) (g, I, J)) : a_call aTab aMX (d + 2) m_Mo_number [.ref 89, .long x, .long y] (g, I, J) Q := by
  have fin : ∀ (b i5 : Int32) v0 v1 v3, a_wp aTab aMX (d + 1) m_Mo_number 33 [v0, v1, aU, v3, aU, .int i5] [.int b, .ref 89] (g, I, J) Q := by
    intro b i5 v0 v1 v3
    rw [b_Mo_number_33 hg, c_mustB hg h]
    refine ⟨rfl, ?_⟩
    rw [b_Mo_number_36]
    exact hQ _
  rw [e_Mo_number, b_Mo_number_0 hg]
  by_cases q1 : I 89 11 = nI 2
  · rw [if_pos q1, b_Mo_number_16 hg, c_in]
    simp only [exI]
    rw [b_Mo_number_25]
    by_cases q2 : bi (decide (¬ J 89 12 < x ∧ ¬ y < J 89 12)) = nI 0
    · rw [if_pos q2, b_Mo_number_32]; exact fin _ _ _ _ _
    · rw [if_neg q2, b_Mo_number_28]; exact fin _ _ _ _ _
  · rw [if_neg q1, b_Mo_number_32]; exact fin _ _ _ _ _
theorem c_isWordG (hg : Geo g) {x : Int64} (hQ : ∀ v, Q (some (.int v)) (g, I, J)) : a_call aTab aMX (d + 1) m_Mo_isWord [.ref 89, .long x] (g, I, J) Q := by
  rw [e_Mo_isWord, b_Mo_isWord_0 hg]
  have y : ∀ v0 v1, a_wp aTab aMX d m_Mo_isWord 21 [v0, v1, aU] [] (g, I, J) Q := fun v0 v1 => by
    rw [b_Mo_isWord_21, b_Mo_isWord_22]; exact ⟨by decide, hQ _⟩
  by_cases q1 : I 89 11 = nI 1
  · rw [if_pos q1, b_Mo_isWord_8 hg]
    by_cases q2 : J 89 12 = x
    · rw [if_pos q2, b_Mo_isWord_17, b_Mo_isWord_22]; exact ⟨by decide, hQ _⟩
    · rw [if_neg q2]; exact y _ _
  · rw [if_neg q1]; exact y _ _
theorem c_isSignG (hg : Geo g) {x : Int32} (hQ : ∀ v, Q (some (.int v)) (g, I, J)) : a_call aTab aMX (d + 1) m_Mo_isSign [.ref 89, .int x] (g, I, J) Q := by
  rw [e_Mo_isSign, b_Mo_isSign_0 hg]
  have y : ∀ v0 v1, a_wp aTab aMX d m_Mo_isSign 22 [v0, v1] [] (g, I, J) Q := fun v0 v1 => by
    rw [b_Mo_isSign_22, b_Mo_isSign_23]; exact ⟨by decide, hQ _⟩
  by_cases q1 : I 89 11 = nI 3
  · rw [if_pos q1, b_Mo_isSign_8 hg]
    by_cases q2 : J 89 12 = x.toInt64
    · rw [if_pos q2, b_Mo_isSign_18, b_Mo_isSign_23]; exact ⟨by decide, hQ _⟩
    · rw [if_neg q2]; exact y _ _
  · rw [if_neg q1]; exact y _ _
end MTX
