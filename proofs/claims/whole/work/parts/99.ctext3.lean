/-! ===== the class reads a text: all of it ===== -/
section CT3
variable {g : aG} {B : Nat → Nat} {n : Nat} {I : Nat → Nat → Int32} {J : Nat → Nat → Int64} {Q : aQ}
theorem CT_0 {s : aT} {v : Int32} (h : CT B n s I) : CT B n s (u2 I 24 0 v) := by
  obtain ⟨h1, h2, h3, h4, h5, h6⟩ := h
  refine ⟨RD_u h1 (by omega) (by omega) (by omega), fun i hi => ?_, ?_, ?_, fun i w hw => ?_, fun i w hw => ?_⟩
  · rw [u2_a (by decide)]; exact h2 i hi
  · rw [u2_k (by decide)]; exact h3
  · rw [u2_a (by decide)]; exact h4
  · rw [u2_a (by decide), u2_a (by decide), u2_a (by decide), u2_a (by decide)]; exact h5 i w hw
  · rw [u2_a (by decide), u2_a (by decide), u2_a (by decide), u2_a (by decide), u2_a (by decide), u2_a (by decide)]; exact h6 i w hw
theorem c_readText (hg : Geo g) (hB : ∀ i, B i ≤ 255) (hn : n ≤ 400) {D : Nat} (hD : 57 ≤ D) (h3 : I 3 0 = nI 32) (h22 : ∀ i, i < n → I 22 i = nI (B i)) (h0 : ∀ q, pTx B n 24 0 s0 = .inl q → ∀ I', FT I I' → I' 23 1 = nI q → Q (some (.int (nI 0))) (g, I', J)) (h1 : ∀ w, pTx B n 24 0 s0 = .inr w → ∀ I', FT I I' → I' 23 1 = (-1 : Int32) → I' 24 0 = nI w.1 → CT B n w.2 I' → Q (some (.int (nI 1))) (g, I', J)) : a_call aTab aMX D m_Reader_readText [.ref 23, .ref 22, .int (nI n)] (g, I, J) Q := by
  obtain ⟨e, rfl⟩ : ∃ e, D = e + 1 := ⟨D - 1, by omega⟩
  have e4 : (if nI 400 < nI 400 then nI 400 else nI 400) = nI 400 := if_neg (by decide)
  have en : (if nI 400 < nI n then nI 400 else nI n) = nI n := by
    by_cases q : n = 400
    · rw [q]; exact e4
    · exact if_neg (by rw [nlt (by omega) (by omega)]; omega)
  have ez : (if nI 0 < nI n then nI n else nI 0) = nI n := by
    by_cases q : n = 0
    · rw [q]; exact if_neg (by decide)
    · exact if_pos (by rw [nlt (by omega) (by omega)]; omega)
  rw [e_Reader_readText, b_Reader_readText_0 hg, e4, en, ez, u2_s, ncl (by omega), ncl (by omega)]
  have hnn : ¬ nI n < nI 0 := by rw [nlt (by omega) (by omega)]; omega
  refine ⟨⟨hnn, by decide, by decide⟩, ⟨by omega, by omega⟩, ?_⟩
  obtain ⟨e2, he2⟩ : ∃ e2, e = e2 + 1 := ⟨e - 1, by omega⟩
  have go : a_wp aTab aMX e m_Reader_readText 41 [.ref 23, .ref 22, .int (nI n), aU] [] (g, u2 (u2 (u2 (cpy2 (u2 I 23 5 (nI n)) 22 0 30 0 n) 24 0 (nI 0)) 24 1 (nI 0)) 24 2 (nI 0), J) Q := by
    rw [b_Reader_readText_41 hg]
    obtain ⟨I1, eI1⟩ : ∃ I1, I1 = u2 (u2 (u2 (u2 (u2 (u2 (u2 (cpy2 (u2 I 23 5 (nI n)) 22 0 30 0 n) 24 0 (nI 0)) 24 1 (nI 0)) 24 2 (nI 0)) 23 4 (nI 0)) 23 10 (nI 0)) 23 8 (nI 0)) 23 1 (-1 : Int32) := ⟨_, rfl⟩
    rw [← eI1]
    have FF : FT I I1 := by
      intro a ha
      funext j
      rw [eI1, u2_a (by omega), u2_a (by omega), u2_a (by omega), u2_a (by omega), u2_a (by omega), u2_a (by omega), u2_a (by omega)]
      rw [show cpy2 (u2 I 23 5 (nI n)) 22 0 30 0 n a j = u2 I 23 5 (nI n) a j from if_neg (by omega), u2_a (by omega)]
    have a30 : ∀ i, i < n → I1 30 i = nI (B i) := by
      intro i hi
      rw [eI1, u2_a (by decide), u2_a (by decide), u2_a (by decide), u2_a (by decide), u2_a (by decide), u2_a (by decide), u2_a (by decide)]
      rw [show cpy2 (u2 I 23 5 (nI n)) 22 0 30 0 n 30 i = u2 I 23 5 (nI n) 22 (0 + (i - 0)) from if_pos (by omega), u2_a (by decide), show 0 + (i - 0) = i by omega]
      exact h22 i hi
    have a5 : I1 23 5 = nI n := by
      rw [eI1, u2_k (by decide), u2_k (by decide), u2_k (by decide), u2_k (by decide), u2_a (by decide), u2_a (by decide), u2_a (by decide)]
      rw [show cpy2 (u2 I 23 5 (nI n)) 22 0 30 0 n 23 5 = u2 I 23 5 (nI n) 23 5 from if_neg (by omega), u2_s]
    have a8 : I1 23 8 = nI 0 := by rw [eI1, u2_k (by decide), u2_s]
    have a10 : I1 23 10 = nI 0 := by rw [eI1, u2_k (by decide), u2_k (by decide), u2_s]
    have a4 : I1 23 4 = nI 0 := by rw [eI1, u2_k (by decide), u2_k (by decide), u2_k (by decide), u2_s]
    have a1 : I1 23 1 = (-1 : Int32) := by rw [eI1, u2_s]
    have b2 : I1 24 2 = nI 0 := by rw [eI1, u2_a (by decide), u2_a (by decide), u2_a (by decide), u2_a (by decide), u2_s]
    have b1 : I1 24 1 = nI 0 := by rw [eI1, u2_a (by decide), u2_a (by decide), u2_a (by decide), u2_a (by decide), u2_k (by decide), u2_s]
    clear eI1
    obtain ⟨e3, he3⟩ : ∃ e3, e = e3 + 2 := ⟨e - 2, by omega⟩
    have adv : a_call aTab aMX e m_Reader_advance [.ref 23] (g, I1, J) (fun v h2 => v = none ∧ a_wp aTab aMX e m_Reader_readText 65 [.ref 23, .ref 22, .int (nI n), aU] [] h2 Q) := by
      rw [he3]
      refine c_advance hg hB a30 hn a5 (Nat.zero_le _) a8 ?_
      intro I2 g1 g2
      rw [← he3]
      refine ⟨rfl, ?_⟩
      have R2 : RD B n 0 0 0 I2 := ⟨g2, by rw [g1 23 5 (by omega)]; exact a5, fun i hi => by rw [g1 30 i (by omega)]; exact a30 i hi, by rw [g1 23 10 (by omega)]; exact a10, by rw [g1 24 2 (by omega)]; exact b2⟩
      have C2 : CT B n s0 I2 := ⟨R2, fun i hi => absurd hi (Nat.not_lt_zero _), by rw [g1 24 1 (by omega)]; exact b1, by rw [g1 23 4 (by omega)]; exact a4, fun i w hw => (by cases hw), fun i w hw => (by cases hw)⟩
      have F2 : FT I I2 := fun a ha => by rw [show I2 a = I1 a from funext (fun j => g1 a j (by omega))]; exact FF a ha
      have f2 : I2 23 1 = (-1 : Int32) := by rw [g1 23 1 (by omega)]; exact a1
      rw [b_Reader_readText_65]
      -- the clauses
      have loop : ∀ fu k s I3, k + fu = 24 → TI n s → s.2.2.2.2.1.length + s.2.2.2.2.2.length = k → FT I I3 → I3 23 1 = (-1 : Int32) → CT B n s I3 → (∀ q, pTx B n fu k s = .inl q → ∀ I', FT I I' → I' 23 1 = nI q → Q (some (.int (nI 0))) (g, I', J)) → (∀ w, pTx B n fu k s = .inr w → ∀ I', FT I I' → I' 23 1 = (-1 : Int32) → I' 24 0 = nI w.1 → CT B n w.2 I' → Q (some (.int (nI 1))) (g, I', J)) → ∀ v1 v2, a_wp aTab aMX e m_Reader_readText 67 [.ref 23, v1, v2, .int (nI k)] [] (g, I3, J) Q := by
        intro fu
        induction fu with
        | zero =>
          intro k s I3 hk hs hc F3 f3 C3 h0 h1 v1 v2
          rw [b_Reader_readText_67, rlf (by omega) (by omega) (by omega), b_Reader_readText_121 hg]
          refine c_rfail hg (by omega) C3.1.1.2.1 ?_
          simp only [exI]
          rw [b_Reader_readText_125]
          exact ⟨by decide, h0 _ rfl _ (FT_u F3 (by omega)) u2_s⟩
        | succ fu ih =>
          intro k s I3 hk hs hc F3 f3 C3 h0 h1 v1 v2
          rw [b_Reader_readText_67, rlt2 (by omega) (by omega) (by omega), b_Reader_readText_73 hg]
          unfold pTx at h0 h1
          refine c_readClause hg hB hn (by omega) hs (by omega) (by rw [F3 3 (by omega)]; exact h3) C3 ?_ ?_
          · intro q eq I4 F4 f4
            rw [eq] at h0
            simp only [exI]
            rw [b_Reader_readText_77, if_pos rfl, b_Reader_readText_80]
            exact h0 q rfl I4 (FT_t F3 F4) f4
          · intro w eq I4 F4 f4 C4
            rw [eq] at h0 h1
            have h0 : ∀ q, (if tk B n w.1 = 256 then (.inr (k + 1, w) : Nat ⊕ (Nat × aT)) else if tk B n w.1 = 59 then pTx B n fu (k + 1) (le B n w.1, w.2) else .inl (ls B n w.1)) = .inl q → ∀ I', FT I I' → I' 23 1 = nI q → Q (some (.int (nI 0))) (g, I', J) := h0
            have h1 : ∀ y, (if tk B n w.1 = 256 then (.inr (k + 1, w) : Nat ⊕ (Nat × aT)) else if tk B n w.1 = 59 then pTx B n fu (k + 1) (le B n w.1, w.2) else .inl (ls B n w.1)) = .inr y → ∀ I', FT I I' → I' 23 1 = (-1 : Int32) → I' 24 0 = nI y.1 → CT B n y.2 I' → Q (some (.int (nI 1))) (g, I', J) := h1
            have hw := cla_P hB hs eq
            have ht := tk_le (n := n) (p := w.1) hB
            have C5 := CT_0 (v := nI (k + 1)) C4
            simp only [exI]
            rw [b_Reader_readText_77, if_neg (by decide), b_Reader_readText_82 hg, nadd, C5.1.1.1, req (by omega) (by omega)]
            have F5 : FT I (u2 I4 24 0 (nI (k + 1))) := FT_u (FT_t F3 F4) (by omega)
            have f5 : u2 I4 24 0 (nI (k + 1)) 23 1 = (-1 : Int32) := by rw [u2_a (by decide)]; exact f4.trans f3
            by_cases q1 : tk B n w.1 = 256
            · rw [if_pos q1] at h1
              rw [if_pos q1, b_Reader_readText_102]
              exact h1 (k + 1, w) rfl _ F5 f5 u2_s C5
            rw [if_neg q1] at h0 h1
            rw [if_neg q1, b_Reader_readText_104 hg]
            refine c_rtake hg hB hn (by omega) (by omega) hw.1.1 C5.1 ?_ ?_
            · intro hne
              rw [if_neg hne] at h0
              simp only [exI]
              rw [b_Reader_readText_110, if_pos rfl, b_Reader_readText_113]
              exact h0 _ rfl _ (FT_u F5 (by omega)) u2_s
            · intro heq I6 g6 R6
              rw [if_pos heq] at h0 h1
              obtain ⟨F6, k6, k7⟩ := FD_adv g6
              have C6 : CT B n (le B n w.1, w.2.1, w.2.2.1 ++ [], w.2.2.2.1, w.2.2.2.2.1, w.2.2.2.2.2) I6 := CT_FD (D := []) C5 F6 R6 (fun i hi => by rw [k7]) (fun i hi => absurd hi (Nat.not_lt_zero _))
              rw [List.append_nil] at C6
              obtain ⟨i1, i2, i3, i4, i5, i6⟩ := hw.1
              have hg6 : w.1 ≤ le B n w.1 := le_ge
              simp only [exI]
              rw [b_Reader_readText_110, if_neg (by decide), b_Reader_readText_115, nadd]
              exact ih (k + 1) (le B n w.1, w.2) I6 (by omega) ⟨le_le i1, by show w.2.2.1.length ≤ le B n w.1; omega, by show w.2.2.2.1.length ≤ le B n w.1; omega, i4, i5, i6⟩ (by show w.2.2.2.2.1.length + w.2.2.2.2.2.length = k + 1; omega) (FT_t F5 (FD_FT F6)) (k6.trans f5) C6 h0 h1 _ _
      exact loop 24 0 s0 I2 rfl s0_TI rfl F2 f2 C2 h0 h1 _ _
    exact adv
  rw [he2] at go ⊢
  rw [e_Script_clear, b_Script_clear_0 hg]
  exact ⟨rfl, go⟩
end CT3
