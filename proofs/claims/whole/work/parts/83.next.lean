/-! ===== the reference takes tokens ===== -/
theorem nL {n : Nat} (h : n ≤ 1000000000) : (nI n).toInt64 = lN n := by rw [← iI_n, iI_l (by omega) (by omega), lI_n]
theorem lNm (a b : Nat) : lN a * lN b = lN (a * b) := by
  exact (Int64.ofNat_mul a b).symm
section NXT
variable {d : Nat} {g : aG} {I : Nat → Nat → Int32} {J : Nat → Nat → Int64} {Q : aQ} {B : Nat → Nat} {n : Nat}
theorem c_isSmall {x : Nat} (hx : x ≤ 255) : a_call aTab aMX (d + 1) m_Mo_isSmall [.int (nI x)] (g, I, J) Q = Q (some (.int (bi (decide (97 ≤ x ∧ x ≤ 122))))) (g, I, J) := by
  rw [e_Mo_isSmall, b_Mo_isSmall_0, rlt (by omega) (by omega)]
  by_cases q : x < 97
  · rw [if_pos q, b_Mo_isSmall_16, b_Mo_isSmall_17, decide_eq_false (by omega)]
    simp only [exI, exJ, exV, eq_self, true_and, and_true, true_or, or_true, if_true, if_false, not_true, not_false_eq_true, false_and, and_false, decide_true, decide_false, bi_T, bi_F, bi_0, bi_1, bi_z, bft, n10, n01, Nat.reduceEqDiff, Nat.reduceLT, Nat.reduceAdd, Nat.reduceMul, reduceCtorEq]
  · rw [if_neg q, b_Mo_isSmall_6, rlt (by omega) (by omega)]
    by_cases q2 : 122 < x
    · rw [if_pos q2, b_Mo_isSmall_16, b_Mo_isSmall_17, decide_eq_false (by omega)]
      simp only [exI, exJ, exV, eq_self, true_and, and_true, true_or, or_true, if_true, if_false, not_true, not_false_eq_true, false_and, and_false, decide_true, decide_false, bi_T, bi_F, bi_0, bi_1, bi_z, bft, n10, n01, Nat.reduceEqDiff, Nat.reduceLT, Nat.reduceAdd, Nat.reduceMul, reduceCtorEq]
    · rw [if_neg q2, b_Mo_isSmall_12, b_Mo_isSmall_17, decide_eq_true (by omega)]
      simp only [exI, exJ, exV, eq_self, true_and, and_true, true_or, or_true, if_true, if_false, not_true, not_false_eq_true, false_and, and_false, decide_true, decide_false, bi_T, bi_F, bi_0, bi_1, bi_z, bft, n10, n01, Nat.reduceEqDiff, Nat.reduceLT, Nat.reduceAdd, Nat.reduceMul, reduceCtorEq]
theorem c_isDigit {x : Nat} (hx : x ≤ 255) : a_call aTab aMX (d + 1) m_Mo_isDigit [.int (nI x)] (g, I, J) Q = Q (some (.int (bi (decide (48 ≤ x ∧ x ≤ 57))))) (g, I, J) := by
  rw [e_Mo_isDigit, b_Mo_isDigit_0, rlt (by omega) (by omega)]
  by_cases q : x < 48
  · rw [if_pos q, b_Mo_isDigit_16, b_Mo_isDigit_17, decide_eq_false (by omega)]
    simp only [exI, exJ, exV, eq_self, true_and, and_true, true_or, or_true, if_true, if_false, not_true, not_false_eq_true, false_and, and_false, decide_true, decide_false, bi_T, bi_F, bi_0, bi_1, bi_z, bft, n10, n01, Nat.reduceEqDiff, Nat.reduceLT, Nat.reduceAdd, Nat.reduceMul, reduceCtorEq]
  · rw [if_neg q, b_Mo_isDigit_6, rlt (by omega) (by omega)]
    by_cases q2 : 57 < x
    · rw [if_pos q2, b_Mo_isDigit_16, b_Mo_isDigit_17, decide_eq_false (by omega)]
      simp only [exI, exJ, exV, eq_self, true_and, and_true, true_or, or_true, if_true, if_false, not_true, not_false_eq_true, false_and, and_false, decide_true, decide_false, bi_T, bi_F, bi_0, bi_1, bi_z, bft, n10, n01, Nat.reduceEqDiff, Nat.reduceLT, Nat.reduceAdd, Nat.reduceMul, reduceCtorEq]
    · rw [if_neg q2, b_Mo_isDigit_12, b_Mo_isDigit_17, decide_eq_true (by omega)]
      simp only [exI, exJ, exV, eq_self, true_and, and_true, true_or, or_true, if_true, if_false, not_true, not_false_eq_true, false_and, and_false, decide_true, decide_false, bi_T, bi_F, bi_0, bi_1, bi_z, bft, n10, n01, Nat.reduceEqDiff, Nat.reduceLT, Nat.reduceAdd, Nat.reduceMul, reduceCtorEq]
/-- the reference stands at the token behind p -/
def RA (B : Nat → Nat) (n p : Nat) (I : Nat → Nat → Int32) (J : Nat → Nat → Int64) : Prop := I 89 9 = nI (ls B n p) ∧ I 89 10 = nI (le B n p) ∧ I 89 11 = nI (sr B n p) ∧ J 89 12 = wth B n p
def XN (I I' : Nat → Nat → Int32) : Prop := ∀ a k, ¬ (a = 89 ∧ (k = 9 ∨ k = 10 ∨ k = 11)) → I' a k = I a k
def XNJ (J J' : Nat → Nat → Int64) : Prop := ∀ a k, ¬ (a = 89 ∧ k = 12) → J' a k = J a k
theorem XN_u {I I' : Nat → Nat → Int32} (h : XN I I') {k : Nat} {v : Int32} (hk : k = 9 ∨ k = 10 ∨ k = 11) : XN I (u2 I' 89 k v) := by
  intro a j h2
  rw [show u2 I' 89 k v a j = I' a j from if_neg (by omega)]
  exact h a j h2
theorem XNJ_u {J J' : Nat → Nat → Int64} (h : XNJ J J') {v : Int64} : XNJ J (u2 J' 89 12 v) := by
  intro a j h2
  rw [show u2 J' 89 12 v a j = J' a j from if_neg (by omega)]
  exact h a j h2
theorem c_next (hg : Geo g) (hB : ∀ i, B i ≤ 255) (hr : ∀ i, i < n → I 94 i = nI (B i)) (hn : n ≤ 400) (h8 : I 89 8 = nI n) {p : Nat} (hp : p ≤ n) (h10 : I 89 10 = nI p) (hQ : ∀ I' J', XN I I' → XNJ J J' → RA B n p I' J' → Q none (g, I', J')) : a_call aTab aMX (d + 2) m_Mo_next [.ref 89] (g, I, J) Q := by
  obtain ⟨s, es⟩ : ∃ s, s = ls B n p := ⟨_, rfl⟩
  have hsn : s ≤ n := by rw [es]; exact rN_le hp
  have hps : p ≤ s := by rw [es]; exact rN_ge
  have de_n : de B n p ≤ n := rN_le (by rw [← es]; exact hsn)
  have we_n : we B n p ≤ n := rN_le (by rw [← es]; exact hsn)
  have s_de : s ≤ de B n p := by rw [es]; exact rN_ge
  have s_we : s ≤ we B n p := by rw [es]; exact rN_ge
  have ah : ∀ {I2 : Nat → Nat → Int32}, XN I I2 → (∀ i, i < n → I2 94 i = nI (B i)) ∧ I2 89 8 = nI n := fun {I2} h => ⟨fun i hi => by rw [h 94 i (by omega)]; exact hr i hi, by rw [h 89 8 (by omega)]; exact h8⟩
  obtain ⟨so, eso⟩ : ∃ so, so = sr B n p := ⟨_, rfl⟩
  have hso : so ≤ 3 := by rw [eso]; exact sr_le B n p
  -- the end
  have fin : ∀ I2 J2, XN I I2 → XNJ J J2 → I2 89 9 = nI s → I2 89 11 = nI so → I2 89 10 = nI (le B n p) → J2 89 12 = wth B n p → a_wp aTab aMX (d + 1) m_Mo_next 335 [.ref 89] [] (g, I2, J2) Q := by
    intro I2 J2 h1 h2 h3 h4 h5 h6
    rw [b_Mo_next_335]
    exact hQ I2 J2 h1 h2 ⟨by rw [← es]; exact h3, h5, by rw [← eso]; exact h4, h6⟩
  -- digits
  have digits : so = 2 → ∀ k, k ≤ n → s ≤ k → k ≤ de B n p → ∀ I2 J2, XN I I2 → XNJ J J2 → I2 89 9 = nI s → I2 89 11 = nI so → I2 89 10 = nI k → J2 89 12 = lN (ww B s (k - s)) → a_wp aTab aMX (d + 1) m_Mo_next 243 [.ref 89] [] (g, I2, J2) Q := by
    intro hs2
    have hsd : s < de B n p := by rw [es]; exact sr_2.1 (by rw [← eso]; exact hs2)
    have stop : ∀ k, k = de B n p → ∀ I2 J2, XN I I2 → XNJ J J2 → I2 89 9 = nI s → I2 89 11 = nI so → I2 89 10 = nI k → J2 89 12 = lN (ww B s (k - s)) → a_wp aTab aMX (d + 1) m_Mo_next 335 [.ref 89] [] (g, I2, J2) Q := by
      intro k hk I2 J2 h1 h2 h3 h4 h5 h6
      refine fin I2 J2 h1 h2 h3 h4 ?_ ?_
      · rw [h5]; unfold le; rw [← es, if_pos hsd, hk]
      · rw [h6]; unfold wth; rw [← eso, hs2, if_neg (by decide), if_pos rfl, ← es, hk]
    refine dn ?_ ?_
    · intro g0 g1 I2 J2 h1 h2 h3 h4 h5 h6
      obtain ⟨a1, a2⟩ := ah h1
      rw [b_Mo_next_243 hg, h4, hs2, if_pos rfl, b_Mo_next_251 hg, h5, a2, rlf (by omega) (by omega) (by omega)]
      exact stop n (by omega) I2 J2 h1 h2 h3 h4 h5 h6
    · intro k hk ih g0 g1 I2 J2 h1 h2 h3 h4 h5 h6
      obtain ⟨a1, a2⟩ := ah h1
      have hb := hB k
      have hw := ww_le (s := s) hB (k - s)
      rw [b_Mo_next_243 hg, h4, hs2, if_pos rfl, b_Mo_next_251 hg, h5, a2, rlt2 (by omega) (by omega) hk, b_Mo_next_262 hg, h5, ncl (by omega), a1 k hk, c_isDigit hb]
      simp (disch := omega) only [nvi, true_and, exI]
      rw [b_Mo_next_274]
      by_cases q : 48 ≤ B k ∧ B k ≤ 57
      · have hd : dgt B k = true := decide_eq_true q
        rw [decide_eq_true q, if_neg (by decide), b_Mo_next_277 hg, h6]
        have hlt : k < de B n p := by
          by_cases y : k < de B n p
          · exact y
          · exfalso
            have : de B n p = k := by omega
            have e := rN_end (q := dgt B) (n := n) (p := ls B n p)
            have e : ¬ (de B n p < n ∧ dgt B (de B n p) = true) := e
            rw [this] at e
            exact e ⟨hk, hd⟩
        have go : ∀ x : Int64, x = lN (ww B s (k + 1 - s)) → a_wp aTab aMX (d + 1) m_Mo_next 319 [.ref 89] [.long x, .ref 89] (g, I2, J2) Q := by
          intro x hx
          rw [b_Mo_next_319 hg, h5, nadd]
          exact ih (by omega) (by omega) _ _ (XN_u h1 (by omega)) (XNJ_u h2) (by rw [u2_k (by decide)]; exact h3) (by rw [u2_k (by decide)]; exact h4) u2_s (by rw [u2_s, hx])
        have ew : ww B s (k + 1 - s) = if 1000000 < ww B s (k - s) then ww B s (k - s) else ww B s (k - s) * 10 + (B k - 48) := by
          rw [show k + 1 - s = (k - s) + 1 by omega]
          show (if 1000000 < ww B s (k - s) then ww B s (k - s) else ww B s (k - s) * 10 + (B (s + (k - s)) - 48)) = _
          rw [show s + (k - s) = k by omega]
        by_cases q2 : 1000000 < ww B s (k - s)
        · rw [if_pos ((lN_lt (by omega) (by omega)).2 q2), b_Mo_next_289 hg, h6]
          exact go _ (by rw [ew, if_pos q2])
        · rw [if_neg (fun w => q2 ((lN_lt (by omega) (by omega)).1 w)), b_Mo_next_296 hg, h6, h5, ncl (by omega), a1 k hk, nL (by omega), lNm, lN_add, lN_sub (by omega)]
          simp (disch := omega) only [nvi, true_and]
          exact go _ (by rw [ew, if_neg q2]; congr 1; omega)
      · rw [decide_eq_false q, if_pos bi_F]
        refine stop k ?_ I2 J2 h1 h2 h3 h4 h5 h6
        by_cases y : k < de B n p
        · have := (rN_in (q := dgt B) (n := n) (p := ls B n p) (i := k) (by omega) y).2
          exact absurd (of_decide_eq_true this) q
        · omega
  have nodig : so ≠ 2 → ∀ I2 J2, XN I I2 → XNJ J J2 → I2 89 9 = nI s → I2 89 11 = nI so → I2 89 10 = nI (le B n p) → J2 89 12 = wth B n p → a_wp aTab aMX (d + 1) m_Mo_next 243 [.ref 89] [] (g, I2, J2) Q := by
    intro hs2 I2 J2 h1 h2 h3 h4 h5 h6
    rw [b_Mo_next_243 hg, h4, req (by omega) (by omega), if_neg hs2]
    exact fin I2 J2 h1 h2 h3 h4 h5 h6
  -- letters
  have letters : so = 1 → ∀ k, k ≤ n → s ≤ k → k ≤ we B n p → ∀ I2 J2, XN I I2 → XNJ J J2 → I2 89 9 = nI s → I2 89 11 = nI so → I2 89 10 = nI k → J2 89 12 = (if k - s ≤ 10 then lN (hf (fun i => B (s + i) - 96) (k - s)) else -1) → a_wp aTab aMX (d + 1) m_Mo_next 149 [.ref 89] [] (g, I2, J2) Q := by
    intro hs1
    have hsw : s < we B n p := by rw [es]; exact sr_1.1 (by rw [← eso]; exact hs1)
    have hnd : ¬ s < de B n p := fun z => by
      have := sr_2.2 (by rw [← es]; exact z : ls B n p < de B n p)
      omega
    have stop : ∀ k, k = we B n p → ∀ I2 J2, XN I I2 → XNJ J J2 → I2 89 9 = nI s → I2 89 11 = nI so → I2 89 10 = nI k → J2 89 12 = (if k - s ≤ 10 then lN (hf (fun i => B (s + i) - 96) (k - s)) else -1) → a_wp aTab aMX (d + 1) m_Mo_next 243 [.ref 89] [] (g, I2, J2) Q := by
      intro k hk I2 J2 h1 h2 h3 h4 h5 h6
      refine nodig (by omega) I2 J2 h1 h2 h3 h4 ?_ ?_
      · rw [h5]; unfold le; rw [← es, if_neg hnd, if_pos hsw, hk]
      · rw [h6]; unfold wth; rw [← eso, hs1, if_pos rfl, ← es, hk]
    refine dn ?_ ?_
    · intro g0 g1 I2 J2 h1 h2 h3 h4 h5 h6
      obtain ⟨a1, a2⟩ := ah h1
      rw [b_Mo_next_149 hg, h4, hs1, if_pos rfl, b_Mo_next_157 hg, h5, a2, rlf (by omega) (by omega) (by omega)]
      exact stop n (by omega) I2 J2 h1 h2 h3 h4 h5 h6
    · intro k hk ih g0 g1 I2 J2 h1 h2 h3 h4 h5 h6
      obtain ⟨a1, a2⟩ := ah h1
      have hb := hB k
      rw [b_Mo_next_149 hg, h4, hs1, if_pos rfl, b_Mo_next_157 hg, h5, a2, rlt2 (by omega) (by omega) hk, b_Mo_next_168 hg, h5, ncl (by omega), a1 k hk, c_isSmall hb]
      simp (disch := omega) only [nvi, true_and, exI]
      rw [b_Mo_next_180]
      by_cases q : 97 ≤ B k ∧ B k ≤ 122
      · have hd : sml B k = true := decide_eq_true q
        rw [decide_eq_true q, if_neg (by decide), b_Mo_next_183 hg, h5, h3, nsub (by omega), rlt (by omega) (by omega)]
        have hlt : k < we B n p := by
          by_cases y : k < we B n p
          · exact y
          · exfalso
            have : we B n p = k := by omega
            have e := rN_end (q := sml B) (n := n) (p := ls B n p)
            have e : ¬ (we B n p < n ∧ sml B (we B n p) = true) := e
            rw [this] at e
            exact e ⟨hk, hd⟩
        have go : ∀ x : Int64, x = (if k + 1 - s ≤ 10 then lN (hf (fun i => B (s + i) - 96) (k + 1 - s)) else -1) → a_wp aTab aMX (d + 1) m_Mo_next 227 [.ref 89] [.long x, .ref 89] (g, I2, J2) Q := by
          intro x hx
          rw [b_Mo_next_227 hg, h5, nadd]
          exact ih (by omega) (by omega) _ _ (XN_u h1 (by omega)) (XNJ_u h2) (by rw [u2_k (by decide)]; exact h3) (by rw [u2_k (by decide)]; exact h4) u2_s (by rw [u2_s, hx])
        by_cases q2 : k - s < 10
        · rw [if_pos q2, b_Mo_next_198 hg, h6, if_pos (by omega), h5, ncl (by omega), a1 k hk, nL (by omega), lNm, lN_add, lN_sub (by omega)]
          simp (disch := omega) only [nvi, true_and]
          refine go _ ?_
          rw [if_pos (by omega), show k + 1 - s = (k - s) + 1 by omega]
          show _ = lN (hf (fun i => B (s + i) - 96) (k - s) * 32 + (B (s + (k - s)) - 96))
          rw [show s + (k - s) = k by omega]
          congr 1
          omega
        · rw [if_neg q2, b_Mo_next_224]
          exact go _ (by rw [if_neg (by omega)])
      · rw [decide_eq_false q, if_pos bi_F]
        refine stop k ?_ I2 J2 h1 h2 h3 h4 h5 h6
        by_cases y : k < we B n p
        · have := (rN_in (q := sml B) (n := n) (p := ls B n p) (i := k) (by omega) y).2
          exact absurd (of_decide_eq_true this) q
        · omega
  -- the sort is known
  have at114 : ∀ I2 J2, XN I I2 → XNJ J J2 → I2 89 9 = nI s → I2 89 10 = nI s → J2 89 12 = lN 0 → a_wp aTab aMX (d + 1) m_Mo_next 114 [.ref 89] [.int (nI so), .ref 89] (g, I2, J2) Q := by
    intro I2 J2 h1 h2 h3 h5 h6
    obtain ⟨a1, a2⟩ := ah h1
    rw [b_Mo_next_114 hg, u2_s, req (by omega) (by omega)]
    have c9 : u2 I2 89 11 (nI so) 89 9 = nI s := by rw [u2_k (by decide)]; exact h3
    have c10 : u2 I2 89 11 (nI so) 89 10 = nI s := by rw [u2_k (by decide)]; exact h5
    have c11 : u2 I2 89 11 (nI so) 89 11 = nI so := u2_s
    have cX : XN I (u2 I2 89 11 (nI so)) := XN_u h1 (by omega)
    obtain ⟨b1, b2⟩ := ah cX
    generalize u2 I2 89 11 (nI so) = I3 at *
    by_cases q3 : so = 3
    · have hsn3 : s < n := by
        by_cases y : s < n
        · exact y
        · have := sr_0.2 (by rw [← es]; exact y : ¬ ls B n p < n)
          omega
      have hb := hB s
      rw [if_pos q3, b_Mo_next_125 hg, c9, c10, ncl (by omega), b1 s hsn3, nL (by omega), nadd]
      simp (disch := omega) only [nvi, true_and]
      rw [b_Mo_next_149 hg, u2_k (by decide), c11, req (by omega) (by omega), if_neg (by omega)]
      refine nodig (by omega) _ _ (XN_u cX (by omega)) (XNJ_u h2) (by rw [u2_k (by decide)]; exact c9) (by rw [u2_k (by decide)]; exact c11) ?_ ?_
      · rw [u2_s]
        have n1 : ¬ s < de B n p := fun z => by
          have := sr_2.2 (by rw [← es]; exact z : ls B n p < de B n p)
          omega
        have n2 : ¬ s < we B n p := fun z => by
          have := sr_1.2 (by rw [← es]; exact z : ls B n p < we B n p)
          omega
        unfold le
        rw [← es, if_neg n1, if_neg n2, if_pos hsn3]
      · rw [u2_s]
        unfold wth
        rw [← eso, q3, if_neg (by decide), if_neg (by decide), if_pos rfl, ← es]
    rw [if_neg q3]
    by_cases q1 : so = 1
    · exact letters q1 s hsn (Nat.le_refl _) s_we I3 J2 cX h2 c9 c11 c10 (by rw [h6, Nat.sub_self, if_pos (by decide)]; rfl)
    rw [b_Mo_next_149 hg, c11, req (by omega) (by omega), if_neg q1]
    by_cases q2 : so = 2
    · exact digits q2 s hsn (Nat.le_refl _) s_de I3 J2 cX h2 c9 c11 c10 (by rw [h6, Nat.sub_self]; rfl)
    · have q0 : so = 0 := by omega
      have hsn0 : ¬ s < n := by rw [es]; exact sr_0.1 (by rw [← eso]; exact q0)
      refine nodig q2 I3 J2 cX h2 c9 c11 ?_ ?_
      · rw [c10]
        unfold le
        rw [← es, if_neg (by omega), if_neg (by omega), if_neg hsn0]
      · rw [h6]
        unfold wth
        rw [← eso, q0, if_neg (by decide), if_neg (by decide), if_neg (by decide)]
  -- behind the spaces
  have at46 : ∀ I2, XN I I2 → I2 89 9 = nI s → a_wp aTab aMX (d + 1) m_Mo_next 46 [.ref 89] [] (g, I2, J) Q := by
    intro I2 h1 h3
    obtain ⟨a1, a2⟩ := ah h1
    rw [b_Mo_next_46 hg, u2_k (by decide), u2_k (by decide), h3, a2, req (by omega) (by omega)]
    have c9 : u2 I2 89 10 (nI s) 89 9 = nI s := by rw [u2_k (by decide)]; exact h3
    have c10 : u2 I2 89 10 (nI s) 89 10 = nI s := u2_s
    have cX : XN I (u2 I2 89 10 (nI s)) := XN_u h1 (by omega)
    have cJ : XNJ J (u2 J 89 12 (lN 0)) := XNJ_u (fun _ _ _ => rfl)
    have c12 : u2 J 89 12 (lN 0) 89 12 = lN 0 := u2_s
    obtain ⟨b1, b2⟩ := ah cX
    generalize u2 I2 89 10 (nI s) = I3 at *
    generalize u2 J 89 12 (lN 0) = J3 at *
    have fi := at114 I3 J3 cX cJ c9 c10 c12
    by_cases q : s = n
    · have : so = 0 := by rw [eso]; exact sr_0.2 (by rw [← es]; omega)
      rw [if_pos q, b_Mo_next_71]
      rw [this] at fi
      exact fi
    · have hb := hB s
      have hlt : ls B n p < n := by rw [← es]; omega
      rw [if_neg q, b_Mo_next_75 hg, c9, ncl (by omega), b1 s (by omega), c_isSmall hb]
      simp (disch := omega) only [nvi, true_and, exI]
      rw [b_Mo_next_87]
      have e : so = if sml B s = true then 1 else if dgt B s = true then 2 else 3 := by
        rw [eso]; unfold sr; rw [if_pos hlt, ← es]
      by_cases q1 : 97 ≤ B s ∧ B s ≤ 122
      · have : so = 1 := by rw [e, if_pos (show sml B s = true from decide_eq_true q1)]
        rw [decide_eq_true q1, if_neg (by decide), b_Mo_next_90]
        rw [this] at fi
        exact fi
      · rw [decide_eq_false q1, if_pos bi_F, b_Mo_next_94 hg, c9, ncl (by omega), b1 s (by omega), c_isDigit hb]
        simp (disch := omega) only [nvi, true_and, exI]
        rw [b_Mo_next_106]
        have nq : ¬ sml B s = true := fun z => q1 (of_decide_eq_true z)
        by_cases q2 : 48 ≤ B s ∧ B s ≤ 57
        · have : so = 2 := by rw [e, if_neg nq, if_pos (show dgt B s = true from decide_eq_true q2)]
          rw [decide_eq_true q2, if_neg (by decide), b_Mo_next_109]
          rw [this] at fi
          exact fi
        · have nq2 : ¬ dgt B s = true := fun z => q2 (of_decide_eq_true z)
          have : so = 3 := by rw [e, if_neg nq, if_neg nq2]
          rw [decide_eq_false q2, if_pos bi_F, b_Mo_next_113]
          rw [this] at fi
          exact fi
  -- spaces
  have spaces : ∀ k, k ≤ n → p ≤ k → k ≤ s → ∀ I2, XN I I2 → I2 89 9 = nI k → a_wp aTab aMX (d + 1) m_Mo_next 8 [.ref 89] [] (g, I2, J) Q := by
    refine dn ?_ ?_
    · intro h0 h1 I2 hX h9
      obtain ⟨a1, a2⟩ := ah hX
      rw [b_Mo_next_8 hg, h9, a2, rlf (by omega) (by omega) (by omega)]
      exact at46 I2 hX (by rw [h9, show n = s by omega])
    · intro k hk ih h0 h1 I2 hX h9
      obtain ⟨a1, a2⟩ := ah hX
      have hb := hB k
      rw [b_Mo_next_8 hg, h9, a2, rlt2 (by omega) (by omega) hk, b_Mo_next_19 hg, h9, ncl (by omega), a1 k hk, req (by omega) (by omega)]
      simp (disch := omega) only [nvi, true_and]
      by_cases q : B k = 32
      · rw [if_pos q, b_Mo_next_33 hg, h9, nadd]
        refine ih (by omega) ?_ _ (XN_u hX (by omega)) u2_s
        by_cases y : k < s
        · omega
        · exfalso
          have : ls B n p = k := by omega
          have e := rN_end (q := spc B) (n := n) (p := p)
          have e : ¬ (ls B n p < n ∧ spc B (ls B n p) = true) := e
          rw [this] at e
          exact e ⟨hk, decide_eq_true q⟩
      · rw [if_neg q]
        refine at46 I2 hX ?_
        rw [h9]
        congr 1
        by_cases y : k < s
        · have := (rN_in (q := spc B) (n := n) (p := p) (i := k) h0 (by rw [es] at y; exact y)).2
          exact absurd (of_decide_eq_true this) q
        · omega
  rw [e_Mo_next, b_Mo_next_0 hg, h10]
  exact spaces p hp (Nat.le_refl _) hps _ (XN_u (fun _ _ _ => rfl) (by omega)) u2_s
end NXT
