/-! ===== the class and the reference take tokens ===== -/
theorem rlt2 {x a : Nat} {t e : Prop} (hx : x < 2147483648) (ha : a < 2147483648) (h : x < a) : (if nI x < nI a then t else e) = t := by rw [rlt hx ha, if_pos h]
theorem rlf {x a : Nat} {t e : Prop} (hx : x < 2147483648) (ha : a < 2147483648) (h : ¬ x < a) : (if nI x < nI a then t else e) = e := by rw [rlt hx ha, if_neg h]
section ADV
variable {d : Nat} {g : aG} {I : Nat → Nat → Int32} {J : Nat → Nat → Int64} {Q : aQ} {B : Nat → Nat} {n : Nat}
theorem c_wordBetween (hg : Geo g) (hB : ∀ i, B i ≤ 255) (hr : ∀ i, i < n → I 30 i = nI (B i)) {s e : Nat} (hse : s ≤ e) (he : e ≤ n) (hn : n ≤ 400) : a_call aTab aMX (d + 1) m_Reader_wordBetween [.ref 23, .int (nI s), .int (nI e)] (g, I, J) Q = Q (some (.int (nI (wdF B s e 18 0)))) (g, I, J) := by
  apply propext
  have hlen : Int32.ofNat a_words.length = nI 80 := by rw [wd_all.2]; rfl
  have hl2 : a_words.length = 80 := wd_all.2
  have key : ∀ j, j ≤ 18 → ∀ v7, (a_wp aTab aMX d m_Reader_wordBetween 13 [.ref 23, .int (nI s), .int (nI e), .int (nI (259 + j)), .int (nI s), .int (nI 1), .int (nI (wst j)), v7] [] (g, I, J) Q ↔ Q (some (.int (nI (wdF B s e (18 - j) j)))) (g, I, J)) := by
    refine dn ?_ ?_
    · intro v7
      rw [b_Reader_wordBetween_13, hlen, wd_all.1, rlf (by omega) (by omega) (by omega), b_Reader_wordBetween_103]
      exact ⟨fun w => w.2, fun w => ⟨rfl, w⟩⟩
    · intro j hj ih v7
      have hwl : 1 ≤ wl j ∧ wl j ≤ 7 := wd_len ⟨j, hj⟩
      have hmo : wst j + wl j < 80 := wd_mono ⟨j, hj⟩
      have inner : ∀ i, i ≤ wl j → ∀ v7, (a_wp aTab aMX d m_Reader_wordBetween 13 [.ref 23, .int (nI s), .int (nI e), .int (nI (259 + j)), .int (nI (s + i)), .int (bi (bP (s + i ≤ e ∧ ∀ i', i' < i → B (s + i') = wc j i'))), .int (nI (wst j + i)), v7] [] (g, I, J) Q ↔ Q (some (.int (nI (wdF B s e (18 - j) j)))) (g, I, J)) := by
        refine dn ?_ ?_
        · intro v7
          have hc : a_words.getD (wst j + wl j) 0 = 32 := wd_sp ⟨j, hj⟩
          rw [b_Reader_wordBetween_13, hlen, rlt2 (by omega) (by omega) hmo, b_Reader_wordBetween_23, hl2, ncl (by omega), hc]
          simp (disch := omega) only [nvi, true_and]
          rw [show Int32.ofNat 32 = nI 32 from rfl, if_pos rfl, b_Reader_wordBetween_75]
          have nxt : ¬ mtw B s e j → ∀ v4 v5 v7, (a_wp aTab aMX d m_Reader_wordBetween 88 [.ref 23, .int (nI s), .int (nI e), .int (nI (259 + j)), v4, v5, .int (nI (wst j + wl j)), v7] [] (g, I, J) Q ↔ Q (some (.int (nI (wdF B s e (18 - j) j)))) (g, I, J)) := by
            intro hm v4 v5 v7
            rw [b_Reader_wordBetween_88, b_Reader_wordBetween_97, nadd, nadd, show 18 - j = (18 - (j + 1)) + 1 by omega, wdF_n hm]
            exact ih _
          by_cases q : s + wl j ≤ e ∧ ∀ i', i' < wl j → B (s + i') = wc j i'
          · rw [bP_t.2 q, if_neg (by decide), b_Reader_wordBetween_80, req (by omega) (by omega)]
            by_cases q2 : s + wl j = e
            · have hm : mtw B s e j := ⟨q2.symm, q.2⟩
              rw [if_pos q2, b_Reader_wordBetween_86, show 18 - j = (18 - (j + 1)) + 1 by omega, wdF_y hm]
            · rw [if_neg q2]
              exact nxt (fun w => q2 w.1.symm) _ _ _
          · rw [bP_f.2 q, if_pos bi_F]
            exact nxt (fun w => q ⟨by have := w.1; omega, w.2⟩) _ _ _
        · intro i hi ihi v7
          have hw := wd_low ⟨j, hj⟩ ⟨i, by omega⟩ hi
          have hc : a_words.getD (wst j + i) 0 = wc j i := hw.2.2
          have hc1 : 97 ≤ wc j i := hw.1
          have hc2 : wc j i ≤ 122 := hw.2.1
          rw [b_Reader_wordBetween_13, hlen, rlt2 (by omega) (by omega) (by omega), b_Reader_wordBetween_23, hl2, ncl (by omega), hc]
          simp (disch := omega) only [nvi, true_and]
          rw [show Int32.ofNat (wc j i) = nI (wc j i) from rfl, req (by omega) (by omega), if_neg (by omega), b_Reader_wordBetween_39]
          have fin : ∀ b : Bool, (b = true ↔ (s + (i + 1) ≤ e ∧ ∀ i', i' < i + 1 → B (s + i') = wc j i')) → ∀ v5 v7, (a_wp aTab aMX d m_Reader_wordBetween 67 [.ref 23, .int (nI s), .int (nI e), .int (nI (259 + j)), .int (nI (s + i)), v5, .int (nI (wst j + i)), v7] [.int (bi b)] (g, I, J) Q ↔ Q (some (.int (nI (wdF B s e (18 - j) j)))) (g, I, J)) := by
            intro b hb v5 v7
            have eb : b = bP (s + (i + 1) ≤ e ∧ ∀ i', i' < i + 1 → B (s + i') = wc j i') := Bool.eq_iff_iff.2 (hb.trans bP_t.symm)
            rw [b_Reader_wordBetween_67, b_Reader_wordBetween_97, nadd, nadd, eb]
            exact ihi _
          have no : ¬ (s + (i + 1) ≤ e ∧ ∀ i', i' < i + 1 → B (s + i') = wc j i') → ∀ v5 v7, (a_wp aTab aMX d m_Reader_wordBetween 66 [.ref 23, .int (nI s), .int (nI e), .int (nI (259 + j)), .int (nI (s + i)), v5, .int (nI (wst j + i)), v7] [] (g, I, J) Q ↔ Q (some (.int (nI (wdF B s e (18 - j) j)))) (g, I, J)) := by
            intro h v5 v7
            rw [b_Reader_wordBetween_66]
            exact fin false ⟨fun z => (by cases z), fun z => absurd z h⟩ _ _
          by_cases q : s + i ≤ e ∧ ∀ i', i' < i → B (s + i') = wc j i'
          rotate_left
          · rw [bP_f.2 q, if_pos bi_F]
            exact no (fun w => q ⟨by omega, fun i' h => w.2 i' (by omega)⟩) _ _
          rw [bP_t.2 q, if_neg (by decide), b_Reader_wordBetween_44, rlt (by omega) (by omega)]
          by_cases q2 : s + i < e
          rotate_left
          · rw [if_neg q2]
            exact no (fun w => q2 (by omega)) _ _
          have hb := hB (s + i)
          rw [if_pos q2, b_Reader_wordBetween_50 hg, ncl (by omega), hr (s + i) (by omega), req (by omega) (by omega)]
          simp (disch := omega) only [nvi, true_and]
          by_cases q3 : B (s + i) = wc j i
          · rw [if_pos q3, b_Reader_wordBetween_62]
            refine fin true ⟨fun _ => ⟨by omega, fun i' h => ?_⟩, fun _ => rfl⟩ _ _
            by_cases z : i' = i
            · rw [z]; exact q3
            · exact q.2 i' (by omega)
          · rw [if_neg q3]
            exact no (fun w => q3 (w.2 i (by omega))) _ _
      have := inner 0 (by omega) v7
      rw [bP_t.2 ⟨by omega, fun i' h => absurd h (by omega)⟩] at this
      exact this
  rw [e_Reader_wordBetween, b_Reader_wordBetween_0]
  exact key 0 (by omega) _
/-- the reader stands at the token behind p -/
def CA (B : Nat → Nat) (n p : Nat) (I : Nat → Nat → Int32) : Prop := I 23 6 = nI (tk B n p) ∧ I 23 7 = nI (ls B n p) ∧ I 23 8 = nI (le B n p) ∧ I 23 9 = nI (nv B n p)
theorem c_advance (hg : Geo g) (hB : ∀ i, B i ≤ 255) (hr : ∀ i, i < n → I 30 i = nI (B i)) (hn : n ≤ 400) (h5 : I 23 5 = nI n) {p : Nat} (hp : p ≤ n) (h8 : I 23 8 = nI p) (hQ : ∀ I', (∀ a k, ¬ (a = 23 ∧ (k = 6 ∨ k = 7 ∨ k = 8 ∨ k = 9)) → I' a k = I a k) → CA B n p I' → Q none (g, I', J)) : a_call aTab aMX (d + 2) m_Reader_advance [.ref 23] (g, I, J) Q := by
  obtain ⟨s, es⟩ : ∃ s, s = ls B n p := ⟨_, rfl⟩
  have hsn : s ≤ n := by rw [es]; exact rN_le hp
  have hps : p ≤ s := by rw [es]; exact rN_ge
  rw [e_Reader_advance, b_Reader_advance_0 hg, h8]
  -- the end, with the token known
  have fin : ∀ I2, (∀ a k, ¬ (a = 23 ∧ (k = 6 ∨ k = 7 ∨ k = 8 ∨ k = 9)) → I2 a k = I a k) → I2 23 7 = nI s → I2 23 9 = nI (nv B n p) → I2 23 6 = nI (tk B n p) → I2 23 8 = nI (le B n p) → Q none (g, I2, J) := by
    intro I2 h1 h2 h3 h4 h6
    exact hQ I2 h1 ⟨h4, by rw [← es]; exact h2, h6, h3⟩
  -- letters
  have letters : ¬ s < de B n p → ∀ k, k ≤ n → s ≤ k → k ≤ we B n p → ∀ I2, (∀ a k, ¬ (a = 23 ∧ (k = 6 ∨ k = 7 ∨ k = 8 ∨ k = 9)) → I2 a k = I a k) → I2 23 7 = nI s → I2 23 9 = nI (nv B n p) → a_wp aTab aMX (d + 1) m_Reader_advance 123 [.ref 23, .int (nI k)] [] (g, I2, J) Q := by
    intro hnd
    have we_n : we B n p ≤ n := rN_le (by rw [← es]; exact hsn)
    have stop : ∀ k, k = we B n p → ∀ I2, (∀ a k, ¬ (a = 23 ∧ (k = 6 ∨ k = 7 ∨ k = 8 ∨ k = 9)) → I2 a k = I a k) → I2 23 7 = nI s → I2 23 9 = nI (nv B n p) → a_wp aTab aMX (d + 1) m_Reader_advance 159 [.ref 23, .int (nI k)] [] (g, I2, J) Q := by
      intro k hk I2 h1 h2 h3
      have hsk : s ≤ k := by rw [hk, es]; exact rN_ge
      have hkn : k ≤ n := by rw [hk]; exact we_n
      rw [b_Reader_advance_159 hg, u2_k (by decide), h2, rlt (by omega) (by omega)]
      have e5 : u2 I2 23 8 (nI k) 23 5 = nI n := by rw [u2_k (by decide), h1 23 5 (by omega)]; exact h5
      have r3 : ∀ v, ∀ a k, ¬ (a = 23 ∧ (k = 6 ∨ k = 7 ∨ k = 8 ∨ k = 9)) → u2 I2 23 8 v a k = I a k := by
        intro v a k hh
        rw [show u2 I2 23 8 v a k = I2 a k from if_neg (by omega)]
        exact h1 a k hh
      by_cases q : s < k
      · have ew : s < we B n p := by omega
        rw [if_pos q, b_Reader_advance_172 hg, u2_k (by decide), u2_s, h2]
        have r30 : ∀ i, i < n → u2 I2 23 8 (nI k) 30 i = nI (B i) := by
          intro i hi
          rw [r3 _ 30 i (by omega)]; exact hr i hi
        rw [c_wordBetween hg hB r30 hsk hkn hn]
        simp only [exI]
        rw [b_Reader_advance_185 hg, b_Reader_advance_226]
        refine fin _ (fun a k hh => ?_) ?_ ?_ ?_ ?_
        · rw [show u2 (u2 I2 23 8 (nI _)) 23 6 _ a k = u2 I2 23 8 (nI _) a k from if_neg (by omega)]
          exact r3 _ a k hh
        · rw [u2_k (by decide), u2_k (by decide)]; exact h2
        · rw [u2_k (by decide), u2_k (by decide)]; exact h3
        · rw [u2_s]
          unfold tk
          rw [← es, if_neg hnd, if_pos ew, hk]
        · rw [u2_k (by decide), u2_s]
          unfold le
          rw [← es, if_neg hnd, if_pos ew, hk]
      · have ek : k = s := by omega
        have ew : ¬ s < we B n p := by omega
        rw [if_neg q, b_Reader_advance_191 hg, e5, rlt (by omega) (by omega)]
        by_cases q2 : k < n
        · have hb := hB k
          have e30 : u2 I2 23 8 (nI k) 30 k = nI (B k) := by rw [r3 _ 30 k (by omega)]; exact hr k q2
          rw [if_pos q2, b_Reader_advance_199 hg, ncl (by omega), e30, b_Reader_advance_226, nadd]
          simp (disch := omega) only [nvi, true_and]
          refine fin _ (fun a k hh => ?_) ?_ ?_ ?_ ?_
          · rw [show u2 (u2 (u2 I2 23 8 (nI _)) 23 6 _) 23 8 _ a k = u2 (u2 I2 23 8 (nI _)) 23 6 _ a k from if_neg (by omega), show u2 (u2 I2 23 8 (nI _)) 23 6 _ a k = u2 I2 23 8 (nI _) a k from if_neg (by omega)]
            exact r3 _ a k hh
          · rw [u2_k (by decide), u2_k (by decide), u2_k (by decide)]; exact h2
          · rw [u2_k (by decide), u2_k (by decide), u2_k (by decide)]; exact h3
          · rw [u2_k (by decide), u2_s]
            unfold tk
            rw [← es, if_neg hnd, if_neg ew, if_pos (by omega), ek]
          · rw [u2_s]
            unfold le
            rw [← es, if_neg hnd, if_neg ew, if_pos (by omega), ek]
        · rw [if_neg q2, b_Reader_advance_219 hg, b_Reader_advance_226]
          refine fin _ (fun a k hh => ?_) ?_ ?_ ?_ ?_
          · rw [show u2 (u2 I2 23 8 (nI _)) 23 6 _ a k = u2 I2 23 8 (nI _) a k from if_neg (by omega)]
            exact r3 _ a k hh
          · rw [u2_k (by decide), u2_k (by decide)]; exact h2
          · rw [u2_k (by decide), u2_k (by decide)]; exact h3
          · rw [u2_s]
            unfold tk
            rw [← es, if_neg hnd, if_neg ew, if_neg (by omega)]
          · rw [u2_k (by decide), u2_s]
            unfold le
            rw [← es, if_neg hnd, if_neg ew, if_neg (by omega), ek]
    refine dn ?_ ?_
    · intro h0 h1 I2 h2 h3 h4
      have e5 : I2 23 5 = nI n := by rw [h2 23 5 (by omega)]; exact h5
      rw [b_Reader_advance_123 hg, e5, rlf (by omega) (by omega) (by omega)]
      exact stop n (by omega) I2 h2 h3 h4
    · intro k hk ih h0 h1 I2 h2 h3 h4
      have e5 : I2 23 5 = nI n := by rw [h2 23 5 (by omega)]; exact h5
      have e30 : I2 30 k = nI (B k) := by rw [h2 30 k (by omega)]; exact hr k hk
      have hb := hB k
      have ends : ¬ sml B k = true → k = we B n p := by
        intro z
        by_cases y : k < we B n p
        · have := (rN_in (q := sml B) (n := n) (p := ls B n p) (i := k) (by omega) y).2
          exact absurd this z
        · omega
      rw [b_Reader_advance_123 hg, e5, rlt2 (by omega) (by omega) hk, b_Reader_advance_131 hg, ncl (by omega), e30, rlt (by omega) (by omega)]
      simp (disch := omega) only [nvi, true_and]
      by_cases q1 : B k < 97
      · rw [if_pos q1]
        exact stop k (ends (fun z => by have := of_decide_eq_true z; omega)) I2 h2 h3 h4
      rw [if_neg q1, b_Reader_advance_142 hg, ncl (by omega), e30, rlt (by omega) (by omega)]
      simp (disch := omega) only [nvi, true_and]
      by_cases q2 : 122 < B k
      · rw [if_pos q2]
        exact stop k (ends (fun z => by have := of_decide_eq_true z; omega)) I2 h2 h3 h4
      rw [if_neg q2, b_Reader_advance_153, nadd]
      refine ih (by omega) ?_ I2 h2 h3 h4
      have hs : sml B k = true := decide_eq_true (by omega)
      by_cases y : k < we B n p
      · omega
      · exfalso
        have : we B n p = k := by omega
        have e := rN_end (q := sml B) (n := n) (p := ls B n p)
        have e : ¬ (we B n p < n ∧ sml B (we B n p) = true) := e
        rw [this] at e
        exact e ⟨hk, hs⟩
  -- digits
  have digits : ∀ k, k ≤ n → s ≤ k → k ≤ de B n p → ∀ I2, (∀ a k, ¬ (a = 23 ∧ (k = 6 ∨ k = 7 ∨ k = 8 ∨ k = 9)) → I2 a k = I a k) → I2 23 7 = nI s → I2 23 9 = nI (vv B s (k - s)) → a_wp aTab aMX (d + 1) m_Reader_advance 40 [.ref 23, .int (nI k)] [] (g, I2, J) Q := by
    have de_n : de B n p ≤ n := rN_le (by rw [← es]; exact hsn)
    have stop : ∀ k, k = de B n p → ∀ I2, (∀ a k, ¬ (a = 23 ∧ (k = 6 ∨ k = 7 ∨ k = 8 ∨ k = 9)) → I2 a k = I a k) → I2 23 7 = nI s → I2 23 9 = nI (vv B s (k - s)) → a_wp aTab aMX (d + 1) m_Reader_advance 102 [.ref 23, .int (nI k)] [] (g, I2, J) Q := by
      intro k hk I2 h1 h2 h3
      have hsk : s ≤ k := by rw [hk, es]; exact rN_ge
      have hkn : k ≤ n := by rw [hk]; exact de_n
      have e9 : I2 23 9 = nI (nv B n p) := by
        rw [h3]
        unfold nv
        rw [← es, hk]
      have r3 : ∀ v, ∀ a k, ¬ (a = 23 ∧ (k = 6 ∨ k = 7 ∨ k = 8 ∨ k = 9)) → u2 I2 23 8 v a k = I a k := by
        intro v a k hh
        rw [show u2 I2 23 8 v a k = I2 a k from if_neg (by omega)]
        exact h1 a k hh
      rw [b_Reader_advance_102 hg, u2_k (by decide), h2, rlt (by omega) (by omega)]
      by_cases q : s < k
      · have ed : s < de B n p := by omega
        rw [if_pos q, b_Reader_advance_115 hg]
        refine fin _ (fun a k hh => ?_) ?_ ?_ ?_ ?_
        · rw [show u2 (u2 I2 23 8 (nI _)) 23 6 _ a k = u2 I2 23 8 (nI _) a k from if_neg (by omega)]
          exact r3 _ a k hh
        · rw [u2_k (by decide), u2_k (by decide)]; exact h2
        · rw [u2_k (by decide), u2_k (by decide)]; exact e9
        · rw [u2_s]
          unfold tk
          rw [← es, if_pos ed]
        · rw [u2_k (by decide), u2_s]
          unfold le
          rw [← es, if_pos ed, hk]
      · rw [if_neg q]
        refine letters (by omega) k hkn hsk ?_ _ (r3 _) ?_ ?_
        · rw [show k = s by omega, es]; exact rN_ge
        · rw [u2_k (by decide)]; exact h2
        · rw [u2_k (by decide)]; exact e9
    refine dn ?_ ?_
    · intro h0 h1 I2 h2 h3 h4
      have e5 : I2 23 5 = nI n := by rw [h2 23 5 (by omega)]; exact h5
      rw [b_Reader_advance_40 hg, e5, rlf (by omega) (by omega) (by omega)]
      exact stop n (by omega) I2 h2 h3 h4
    · intro k hk ih h0 h1 I2 h2 h3 h4
      have e5 : I2 23 5 = nI n := by rw [h2 23 5 (by omega)]; exact h5
      have e30 : I2 30 k = nI (B k) := by rw [h2 30 k (by omega)]; exact hr k hk
      have hb := hB k
      have ends : ¬ dgt B k = true → k = de B n p := by
        intro z
        by_cases y : k < de B n p
        · have := (rN_in (q := dgt B) (n := n) (p := ls B n p) (i := k) (by omega) y).2
          exact absurd this z
        · omega
      rw [b_Reader_advance_40 hg, e5, rlt2 (by omega) (by omega) hk, b_Reader_advance_48 hg, ncl (by omega), e30, rlt (by omega) (by omega)]
      simp (disch := omega) only [nvi, true_and]
      by_cases q1 : B k < 48
      · rw [if_pos q1]
        exact stop k (ends (fun z => by have := of_decide_eq_true z; omega)) I2 h2 h3 h4
      rw [if_neg q1, b_Reader_advance_59 hg, ncl (by omega), e30, rlt (by omega) (by omega)]
      simp (disch := omega) only [nvi, true_and]
      by_cases q2 : 57 < B k
      · rw [if_pos q2]
        exact stop k (ends (fun z => by have := of_decide_eq_true z; omega)) I2 h2 h3 h4
      have hv := vv_le B s (k - s)
      rw [if_neg q2, b_Reader_advance_70 hg, ncl (by omega), e30, h4]
      simp (disch := omega) only [nvi, true_and, nmul, nadd, nsub, nlt]
      have hs : dgt B k = true := decide_eq_true (by omega)
      have ev : (if vv B s (k - s) * 10 + B k - 48 < 100000 then nI (vv B s (k - s) * 10 + B k - 48) else nI 100000) = nI (vv B s (k + 1 - s)) := by
        rw [show k + 1 - s = (k - s) + 1 by omega]
        show _ = nI (min 100000 (vv B s (k - s) * 10 + (B (s + (k - s)) - 48)))
        rw [show s + (k - s) = k by omega]
        split
        · congr 1; omega
        · congr 1; omega
      rw [ev]
      refine ih (by omega) ?_ _ ?_ ?_ u2_s
      · by_cases y : k < de B n p
        · omega
        · exfalso
          have : de B n p = k := by omega
          have e := rN_end (q := dgt B) (n := n) (p := ls B n p)
          have e : ¬ (de B n p < n ∧ dgt B (de B n p) = true) := e
          rw [this] at e
          exact e ⟨hk, hs⟩
      · intro a k hh
        rw [show u2 I2 23 9 _ a k = I2 a k from if_neg (by omega)]
        exact h2 a k hh
      · rw [u2_k (by decide)]; exact h3
  -- spaces
  have spaces : ∀ k, k ≤ n → p ≤ k → k ≤ s → a_wp aTab aMX (d + 1) m_Reader_advance 5 [.ref 23, .int (nI k)] [] (g, I, J) Q := by
    have stop : ∀ k, k = s → a_wp aTab aMX (d + 1) m_Reader_advance 30 [.ref 23, .int (nI k)] [] (g, I, J) Q := by
      intro k hk
      rw [b_Reader_advance_30 hg, hk]
      refine digits s hsn (Nat.le_refl _) (by rw [es]; exact rN_ge) _ (fun a k hh => ?_) ?_ ?_
      · rw [show u2 (u2 I 23 7 (nI s)) 23 9 (nI 0) a k = u2 I 23 7 (nI s) a k from if_neg (by omega), show u2 I 23 7 (nI s) a k = I a k from if_neg (by omega)]
      · rw [u2_k (by decide), u2_s]
      · rw [u2_s, Nat.sub_self]; rfl
    refine dn ?_ ?_
    · intro h0 h1
      rw [b_Reader_advance_5 hg, h5, rlf (by omega) (by omega) (by omega)]
      exact stop n (by omega)
    · intro k hk ih h0 h1
      have hb := hB k
      rw [b_Reader_advance_5 hg, h5, rlt2 (by omega) (by omega) hk, b_Reader_advance_13 hg, ncl (by omega), hr k hk, req (by omega) (by omega)]
      simp (disch := omega) only [nvi, true_and]
      by_cases q : B k = 32
      · rw [if_pos q, b_Reader_advance_24, nadd]
        refine ih (by omega) ?_
        by_cases y : k < s
        · omega
        · exfalso
          have : ls B n p = k := by omega
          have e := rN_end (q := spc B) (n := n) (p := p)
          have e : ¬ (ls B n p < n ∧ spc B (ls B n p) = true) := e
          rw [this] at e
          exact e ⟨hk, decide_eq_true q⟩
      · rw [if_neg q]
        refine stop k ?_
        by_cases y : k < s
        · have := (rN_in (q := spc B) (n := n) (p := p) (i := k) h0 (by rw [es] at y; exact y)).2
          exact absurd (of_decide_eq_true this) q
        · omega
  exact spaces p hp (Nat.le_refl _) hps
end ADV
