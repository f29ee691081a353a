/-! ===== the class reads expressions: all of it ===== -/
section RD4
variable {g : aG} {B : Nat → Nat} {n : Nat}
theorem lev5 (hg : Geo g) {D dp nb : Nat} {fS : aF} (hD : 2 ≤ D) (h : OKC B n g (D - 1) m_Reader_readPart [.ref 23, .int (nI dp)] (pPart B n nb fS)) : OKC B n g D m_Reader_readLevel [.ref 23, .int (nI 5), .int (nI dp)] (pPart B n nb fS) := by
  intro p lv u bR I J Q hR hu hp hlv hK
  obtain ⟨e, rfl⟩ : ∃ e, D = e + 1 := ⟨D - 1, by omega⟩
  rw [e_Reader_readLevel, b_Reader_readLevel_0, req (by omega) (by omega), if_neg (by decide), b_Reader_readLevel_11, rlt2 (by omega) (by omega) (by omega), b_Reader_readLevel_16 hg]
  refine h p lv u bR I J _ hR hu hp hlv ⟨fun q eq I' x1 x2 => ?_, fun w eq I' x1 x2 x3 x4 x5 => ?_⟩
  · simp only [exI]
    rw [b_Reader_readLevel_21]
    exact ⟨by decide, hK.1 q eq I' x1 x2⟩
  · simp only [exI]
    rw [b_Reader_readLevel_21]
    exact ⟨by decide, hK.2 w eq I' x1 x2 x3 x4 x5⟩
theorem lev2 (hg : Geo g) {D dp nb : Nat} {f : aF} (hD : 2 ≤ D) (h : OKC B n g (D - 1) m_Reader_readPlain [.ref 23, .int (nI dp)] f) : OKC B n g D m_Reader_readLevel [.ref 23, .int (nI 2), .int (nI dp)] f := by
  intro p lv u bR I J Q hR hu hp hlv hK
  obtain ⟨e, rfl⟩ : ∃ e, D = e + 1 := ⟨D - 1, by omega⟩
  rw [e_Reader_readLevel, b_Reader_readLevel_0, if_pos rfl, b_Reader_readLevel_5 hg]
  refine h p lv u bR I J _ hR hu hp hlv ⟨fun q eq I' x1 x2 => ?_, fun w eq I' x1 x2 x3 x4 x5 => ?_⟩
  · simp only [exI]
    rw [b_Reader_readLevel_10]
    exact ⟨by decide, hK.1 q eq I' x1 x2⟩
  · simp only [exI]
    rw [b_Reader_readLevel_10]
    exact ⟨by decide, hK.2 w eq I' x1 x2 x3 x4 x5⟩
theorem levA (hg : Geo g) (hB : ∀ i, B i ≤ 255) (hn : n ≤ 400) {D L dp : Nat} {f : aF} (hD : 3 ≤ D) (hL : L = 3 ∨ L = 4) (hPf : PP n 0 f) (hf : OKC B n g (D - 1) m_Reader_readLevel [.ref 23, .int (nI (L + 1)), .int (nI dp)] f) : OKC B n g D m_Reader_readLevel [.ref 23, .int (nI L), .int (nI dp)] (fun p lv bC bR => thn (f p lv bC bR) (lpA B n (opL L) f bC bR 400)) := by
  intro p lv u bR I J Q hR hu hp hlv hK
  obtain ⟨e, rfl⟩ : ∃ e, D = e + 1 := ⟨D - 1, by omega⟩
  have hf : OKC B n g e m_Reader_readLevel [.ref 23, .int (nI (L + 1)), .int (nI dp)] f := hf
  rw [e_Reader_readLevel, b_Reader_readLevel_0, req (by omega) (by omega), if_neg (by omega), b_Reader_readLevel_11, rlf (by omega) (by omega) (by omega), b_Reader_readLevel_22 hg, nadd]
  have hK : KF B n g I J Q u (thn (f p lv u bR) (lpA B n (opL L) f u bR 400)) := hK
  refine hf p lv u bR I J _ hR hu hp hlv ⟨fun q eq I' x1 x2 => ?_, fun w eq I' x1 x2 x3 x4 x5 => ?_⟩
  · simp only [exI]
    rw [eq] at hK
    rw [b_Reader_readLevel_30, if_pos rfl, b_Reader_readLevel_33]
    exact KF_l (q := q) hK x1 x2
  · simp only [exI]
    have hw := hPf p lv u bR hp w eq
    rw [eq] at hK
    rw [b_Reader_readLevel_30, if_neg (by decide), b_Reader_readLevel_35]
    exact loopA hg hB hn (by omega) hL hu hPf hf 400 0 (by omega) w I' hw x1 x2 x3 x4 x5 hK _ _
theorem levL (hg : Geo g) (hB : ∀ i, B i ≤ 255) (hn : n ≤ 400) {D L dp : Nat} {f : aF} (hD : 3 ≤ D) (hL : L = 0 ∨ L = 1) (hPf : PP n 1 f) (hf : OKC B n g (D - 1) m_Reader_readLevel [.ref 23, .int (nI (L + 1)), .int (nI dp)] f) : OKC B n g D m_Reader_readLevel [.ref 23, .int (nI L), .int (nI dp)] (fun p lv bC bR => thn (f p lv bC bR) (lpL B n (opL L) f bC bR 400)) := by
  intro p lv u bR I J Q hR hu hp hlv hK
  obtain ⟨e, rfl⟩ : ∃ e, D = e + 1 := ⟨D - 1, by omega⟩
  have hf : OKC B n g e m_Reader_readLevel [.ref 23, .int (nI (L + 1)), .int (nI dp)] f := hf
  rw [e_Reader_readLevel, b_Reader_readLevel_0, req (by omega) (by omega), if_neg (by omega), b_Reader_readLevel_11, rlf (by omega) (by omega) (by omega), b_Reader_readLevel_22 hg, nadd]
  have hK : KF B n g I J Q u (thn (f p lv u bR) (lpL B n (opL L) f u bR 400)) := hK
  refine hf p lv u bR I J _ hR hu hp hlv ⟨fun q eq I' x1 x2 => ?_, fun w eq I' x1 x2 x3 x4 x5 => ?_⟩
  · simp only [exI]
    rw [eq] at hK
    rw [b_Reader_readLevel_30, if_pos rfl, b_Reader_readLevel_33]
    exact KF_l (q := q) hK x1 x2
  · simp only [exI]
    have hw := hPf p lv u bR hp w eq
    rw [eq] at hK
    rw [b_Reader_readLevel_30, if_neg (by decide), b_Reader_readLevel_35]
    exact loopL hg hB hn (by omega) hL hu hPf hf 400 0 (by omega) w I' hw x1 x2 x3 x4 x5 hK _ _
theorem c_readCmp (hg : Geo g) (hB : ∀ i, B i ≤ 255) (hn : n ≤ 400) {D dp nb : Nat} {fS : aF} (hD : 3 ≤ D) (hPf : PP n 0 (pSum B n nb fS)) (hf : OKC B n g (D - 1) m_Reader_readLevel [.ref 23, .int (nI 3), .int (nI dp)] (pSum B n nb fS)) : OKC B n g D m_Reader_readComparison [.ref 23, .int (nI dp)] (pCmp B n nb fS) := by
  intro p lv u bR I J Q hR hu hp hlv hK
  obtain ⟨e, rfl⟩ : ∃ e, D = e + 1 := ⟨D - 1, by omega⟩
  have hf : OKC B n g e m_Reader_readLevel [.ref 23, .int (nI 3), .int (nI dp)] (pSum B n nb fS) := hf
  unfold pCmp at hK
  rw [e_Reader_readComparison, b_Reader_readComparison_0 hg]
  refine hf p lv u bR I J _ hR hu hp hlv ⟨fun q eq I' x1 x2 => ?_, fun w eq I1 x1 x2 x3 x4 x5 => ?_⟩
  · simp only [exI]
    rw [eq] at hK
    rw [b_Reader_readComparison_6, if_pos rfl, b_Reader_readComparison_9]
    exact KF_l (q := q) hK x1 x2
  · simp only [exI]
    have hw := hPf p lv u bR hp w eq
    rw [eq] at hK
    have hK : KF B n g I J Q u (match oC (tk B n w.1) with
      | none => .inl (ls B n w.1)
      | some o => thn (pSum B n nb fS (le B n w.1) w.2.1 (u + w.2.2.1.length) (bR + w.2.2.2.1.length)) (fun z => .inr (z.1, z.2.1, w.2.2.1 ++ z.2.2.1 ++ [o], w.2.2.2.1 ++ z.2.2.2.1 ++ [(o + 18, 0)], v2 o w.2.2.2.2 z.2.2.2.2))) := hK
    have ht := tk_le (n := n) (p := w.1) hB
    rw [b_Reader_readComparison_6, if_neg (by decide), b_Reader_readComparison_11 hg, c_opAt hg (by omega) (by omega) ht x3.1.1]
    simp only [exI]
    rw [b_Reader_readComparison_16, show opL 2 = oC from rfl]
    cases eo : oC (tk B n w.1) with
    | none =>
      rw [eo] at hK
      rw [if_pos (show oI none = (-1 : Int32) from rfl), b_Reader_readComparison_22 hg]
      refine c_rfail hg (by omega) x3.1.2.1 ?_
      simp only [exI]
      rw [b_Reader_readComparison_26]
      exact ⟨by decide, KF_l (q := ls B n w.1) hK (FD_f x1) u2_s⟩
    | some o =>
      rw [eo] at hK
      have ho := oC_o eo
      have hlt := tk_ne (n := n) (p := w.1) hB rfl ho.2.2
      rw [if_neg (show ¬ oI (some o) = (-1 : Int32) from nI_m1 (by omega)), b_Reader_readComparison_27 hg]
      refine c_radv hg hB hn (by omega) hw.2.2.2.1 x3 ?_
      intro I2 g1 g2
      obtain ⟨g3, g4, g5⟩ := FD_adv g1
      have hln := le_le (B := B) hw.2.2.2.1
      have b1 := hw.1
      simp only [exV, true_and]
      rw [b_Reader_readComparison_31 hg]
      refine hf (le B n w.1) w.2.1 (u + w.2.2.1.length) (bR + w.2.2.2.1.length) I2 J _ g2 (by omega) hln hw.2.2.2.2.2.1 ⟨fun q eq I' f1 f2 => ?_, fun z eq I3 f1 f2 f3 f4 f5 => ?_⟩
      · simp only [exI]
        have eq : pSum B n nb fS (le B n w.1) w.2.1 (u + w.2.2.1.length) (bR + w.2.2.2.1.length) = .inl q := eq
        rw [eq] at hK
        rw [b_Reader_readComparison_37, if_pos rfl, b_Reader_readComparison_40]
        exact KF_l (q := q) hK (FD_t (FD_t x1 g3) f1) f2
      · simp only [exI]
        have hz := hPf (le B n w.1) w.2.1 (u + w.2.2.1.length) (bR + w.2.2.2.1.length) hln z eq
        have eq : pSum B n nb fS (le B n w.1) w.2.1 (u + w.2.2.1.length) (bR + w.2.2.2.1.length) = .inr z := eq
        rw [eq] at hK
        have b2 := hz.1
        have b3 := hz.2.2.2.1
        rw [b_Reader_readComparison_37, if_neg (by decide), b_Reader_readComparison_42 hg]
        have hc3 : hC (w.2.2.1 ++ z.2.2.1) u (I3 29) := by
          rw [hC_app]
          refine ⟨fun i hi => ?_, f5⟩
          rw [f4 (u + i) (by omega), g5]
          exact x5 i hi
        have hR3 : RD B n z.1 z.2.1 (u + (w.2.2.1 ++ z.2.2.1).length) I3 := by rw [List.length_append, ← Nat.add_assoc]; exact f3
        have hlen : (w.2.2.1 ++ z.2.2.1).length = w.2.2.1.length + z.2.2.1.length := List.length_append
        refine c_sAdd (x := 0) hg (by omega) (u := u + (w.2.2.1 ++ z.2.2.1).length) (by omega) (by omega) (by omega) hR3.2.2.2.2 ?_
        simp only [exV, true_and]
        rw [b_Reader_readComparison_51, show 0 * 16 + o = o by omega]
        obtain ⟨p1, p2, p3, p4, p5⟩ := add_post (x := o) (FD_t (FD_t x1 g3) f1) (f2.trans (g4.trans x2)) hR3 (fun i hi => by rw [f4 i (by omega), g5]; exact x4 i hi) hc3
        exact KF_s (w := (z.1, z.2.1, w.2.2.1 ++ z.2.2.1 ++ [o], w.2.2.2.1 ++ z.2.2.2.1 ++ [(o + 18, 0)], v2 o w.2.2.2.2 z.2.2.2.2)) hK _ p1 p2 p3 p4 p5
theorem c_readPlain (hg : Geo g) (hB : ∀ i, B i ≤ 255) (hn : n ≤ 400) {D dp nb : Nat} {fS fT : aF} (hD : 6 ≤ D) (hdp : dp + nb = 8) (hPS : nb ≠ 0 → PP n 0 fS) (hPT : nb ≠ 0 → PP n 1 fT) (hT : nb ≠ 0 → OKC B n g (D - 2) m_Reader_readLevel [.ref 23, .int (nI 0), .int (nI (dp + 1))] fT) (hC1 : OKC B n g (D - 1) m_Reader_readComparison [.ref 23, .int (nI dp)] (pCmp B n nb fS)) : OKC B n g D m_Reader_readPlain [.ref 23, .int (nI dp)] (pPlain B n nb fS fT) := by
  intro p lv u bR I J Q hR hu hp hlv hK
  obtain ⟨e, rfl⟩ : ∃ e, D = e + 1 := ⟨D - 1, by omega⟩
  have hC1 : OKC B n g e m_Reader_readComparison [.ref 23, .int (nI dp)] (pCmp B n nb fS) := hC1
  rw [e_Reader_readPlain, b_Reader_readPlain_0]
  obtain ⟨m, em⟩ : ∃ m, m = ntN B n 400 p := ⟨_, rfl⟩
  obtain ⟨p0, ep⟩ : ∃ p0, p0 = ntP B n 400 p := ⟨_, rfl⟩
  have hnt := nt_le (n := n) hB 400 p hp
  rw [← em, ← ep] at hnt
  unfold pPlain at hK
  rw [← em, ← ep] at hK
  have hpn := not_P (n := n) hB hPS hPT p0 lv u bR hnt.2
  -- behind the row of not
  have at41 : ∀ I1, FD I I1 → I1 23 1 = I 23 1 → I1 29 = I 29 → RD B n p0 lv u I1 → ∀ v3, a_wp aTab aMX e m_Reader_readPlain 41 [.ref 23, .int (nI dp), .int (nI (m % 2)), v3] [] (g, I1, J) Q := by
    intro I1 x1 x2 x29 x3 v3
    have ht := tk_le (n := n) (p := p0) hB
    have fin : ∀ r, r = pNot B n nb fS fT p0 lv u bR → KF B n g I1 J (fun v h => ∃ i : Int32, v = some (.int i) ∧ a_wp aTab aMX e m_Reader_readPlain 66 [.ref 23, .int (nI dp), .int (nI (m % 2)), aU] [.int i] h Q) u r := by
      intro r er
      refine ⟨fun q eq I2 f1 f2 => ?_, fun w eq I2 f1 f2 f3 f4 f5 => ?_⟩
      · simp only [exI]
        rw [← er, eq] at hK
        rw [b_Reader_readPlain_66, if_pos rfl, b_Reader_readPlain_85]
        exact ⟨by decide, KF_l (q := q) hK (FD_t x1 f1) f2⟩
      · simp only [exI]
        rw [eq] at er
        have hw := hpn w er.symm
        rw [← er] at hK
        have hK : KF B n g I J Q u (.inr (ngs m w)) := hK
        rw [b_Reader_readPlain_66, if_neg (by decide), b_Reader_readPlain_71, req (by omega) (by omega)]
        by_cases q1 : m % 2 = 1
        · have hng : ngs m w = (w.1, w.2.1, w.2.2.1 ++ [9], w.2.2.2.1 ++ List.replicate m (27, 0), vn w.2.2.2.2) := if_pos q1
          rw [hng] at hK
          have b1 := hw.1
          have b3 := hw.2.2.2.1
          rw [if_neg (by omega), b_Reader_readPlain_75 hg]
          refine c_sAdd (x := 0) hg (by omega) (u := u + w.2.2.1.length) (by omega) (by omega) (by omega) f3.2.2.2.2 ?_
          simp only [exV, true_and]
          rw [b_Reader_readPlain_85, show 0 * 16 + 9 = 9 from rfl]
          obtain ⟨p1, p2, p3, p4, p5⟩ := add_post (x := 9) (FD_t x1 f1) (f2.trans x2) f3 (fun i hi => by rw [f4 i hi, x29]) f5
          exact ⟨by decide, KF_s (w := (w.1, w.2.1, w.2.2.1 ++ [9], w.2.2.2.1 ++ List.replicate m (27, 0), vn w.2.2.2.2)) hK _ p1 p2 p3 p4 p5⟩
        · have hng : ngs m w = (w.1, w.2.1, w.2.2.1, w.2.2.2.1 ++ List.replicate m (27, 0), w.2.2.2.2) := if_neg q1
          rw [hng] at hK
          rw [if_pos (by omega), b_Reader_readPlain_85]
          exact ⟨by decide, KF_s (w := (w.1, w.2.1, w.2.2.1, w.2.2.2.1 ++ List.replicate m (27, 0), w.2.2.2.2)) hK _ (FD_t x1 f1) (f2.trans x2) f3 (fun i hi => by rw [f4 i hi, x29]) f5⟩
    rw [b_Reader_readPlain_41 hg, x3.1.1, req (by omega) (by omega)]
    by_cases q : tk B n p0 = 40
    · rw [if_pos q, b_Reader_readPlain_50 hg]
      refine c_readWithin (D := e) (k := 1) (f := fT) (nb := nb) (bR := bR) hg hB hn (by omega) (by omega) hdp (fun h => by have := hT h; rw [show e + 1 - 2 = e - 1 by omega] at this; exact this) hPT x3 (by omega) hnt.2 hlv (by omega) ?_
      have := fin (if nb = 0 then .inl (ls B n p0) else pIn B n fT 41 p0 lv u bR) (by unfold pNot; rw [if_pos q])
      refine ⟨fun y eq I2 f1 f2 => ?_, fun w eq I2 f1 f2 f3 f4 f5 => ?_⟩
      · have := this.1 y eq I2 f1 f2
        simp only [exI] at this ⊢
        rw [b_Reader_readPlain_58]
        exact this
      · have := this.2 w eq I2 f1 f2 f3 f4 f5
        simp only [exI] at this ⊢
        rw [b_Reader_readPlain_58]
        exact this
    · rw [if_neg q, b_Reader_readPlain_61 hg]
      exact hC1 p0 lv u bR I1 J _ x3 (by omega) hnt.2 hlv (fin (pCmp B n nb fS p0 lv u bR) (by unfold pNot; rw [if_neg q]))
  -- the row of not
  have row : ∀ fu k, k + fu = 400 → ∀ p' m' I1, m' + ntN B n fu p' = m → ntP B n fu p' = p0 → p' ≤ n → FD I I1 → I1 23 1 = I 23 1 → I1 29 = I 29 → RD B n p' lv u I1 → a_wp aTab aMX e m_Reader_readPlain 4 [.ref 23, .int (nI dp), .int (nI (m' % 2)), .int (nI k)] [] (g, I1, J) Q := by
    intro fu
    induction fu with
    | zero =>
      intro k hk p' m' I1 h1 h2 h3 x1 x2 x29 x3
      have h1 : m' + 0 = m := h1
      have h2 : p' = p0 := h2
      rw [b_Reader_readPlain_4, rlf (by omega) (by omega) (by omega), show m' = m by omega]
      exact at41 I1 x1 x2 x29 (by rw [← h2]; exact x3) _
    | succ fu ih =>
      intro k hk p' m' I1 h1 h2 h3 x1 x2 x29 x3
      have ht := tk_le (n := n) (p := p') hB
      rw [b_Reader_readPlain_4, rlt2 (by omega) (by omega) (by omega), b_Reader_readPlain_11 hg, x3.1.1, req (by omega) (by omega)]
      unfold ntN at h1
      unfold ntP at h2
      by_cases q : tk B n p' = 276
      · rw [if_pos q] at h1 h2
        rw [if_pos q, b_Reader_readPlain_21, req (by omega) (by omega)]
        have go : a_wp aTab aMX e m_Reader_readPlain 30 [.ref 23, .int (nI dp), aU, .int (nI k)] [.int (nI ((m' + 1) % 2))] (g, I1, J) Q := by
          rw [b_Reader_readPlain_30 hg]
          refine c_radv hg hB hn (by omega) h3 x3 ?_
          intro I2 g1 g2
          obtain ⟨g3, g4, g5⟩ := FD_adv g1
          simp only [exV, true_and]
          rw [b_Reader_readPlain_35, nadd]
          exact ih (k + 1) (by omega) (le B n p') (m' + 1) I2 (by omega) h2 (le_le h3) (FD_t x1 g3) (g4.trans x2) (g5.trans x29) g2
        by_cases q2 : m' % 2 = 0
        · rw [if_pos q2, b_Reader_readPlain_25]
          rw [show (m' + 1) % 2 = 1 by omega] at go
          exact go
        · rw [if_neg q2, b_Reader_readPlain_29]
          rw [show (m' + 1) % 2 = 0 by omega] at go
          exact go
      · rw [if_neg q] at h1 h2
        rw [if_neg q, show m' = m by omega]
        exact at41 I1 x1 x2 x29 (by rw [← h2]; exact x3) _
  exact row 400 0 (by omega) p 0 I (by rw [em]; omega) ep.symm hp (FD_r I) rfl rfl hR
theorem c_readAll (hg : Geo g) (hB : ∀ i, B i ≤ 255) (hn : n ≤ 400) : ∀ nb dp, dp + nb = 8 → (∀ D, 5 * nb + 9 ≤ D → OKC B n g D m_Reader_readLevel [.ref 23, .int (nI 3), .int (nI dp)] (pAll B n nb).1) ∧ (∀ D, 5 * nb + 14 ≤ D → OKC B n g D m_Reader_readLevel [.ref 23, .int (nI 0), .int (nI dp)] (pAll B n nb).2) := by
  have step : ∀ nb dp (fS fT : aF), dp + nb = 8 → (nb ≠ 0 → PP n 0 fS) → (nb ≠ 0 → PP n 1 fT) → (nb ≠ 0 → ∀ D, 5 * nb + 4 ≤ D → OKC B n g D m_Reader_readLevel [.ref 23, .int (nI 3), .int (nI (dp + 1))] fS) → (nb ≠ 0 → ∀ D, 5 * nb + 9 ≤ D → OKC B n g D m_Reader_readLevel [.ref 23, .int (nI 0), .int (nI (dp + 1))] fT) → (∀ D, 5 * nb + 9 ≤ D → OKC B n g D m_Reader_readLevel [.ref 23, .int (nI 3), .int (nI dp)] (pSum B n nb fS)) ∧ (∀ D, 5 * nb + 14 ≤ D → OKC B n g D m_Reader_readLevel [.ref 23, .int (nI 0), .int (nI dp)] (pTest B n nb fS fT)) := by
    intro nb dp fS fT hdp h1 h2 h3 h4
    have s3 : ∀ D, 5 * nb + 9 ≤ D → OKC B n g D m_Reader_readLevel [.ref 23, .int (nI 3), .int (nI dp)] (pSum B n nb fS) := by
      intro D hD
      refine levA (L := 3) hg hB hn (by omega) (by omega) (term_P hB h1) ?_
      refine levA (L := 4) hg hB hn (by omega) (by omega) (part_P hB h1) ?_
      refine lev5 hg (by omega) ?_
      exact c_readPart hg hB hn (by omega) hdp (fun h => h3 h _ (by omega)) h1
    refine ⟨s3, fun D hD => ?_⟩
    refine levL (L := 0) hg hB hn (by omega) (by omega) (both_P hB h1 h2) ?_
    refine levL (L := 1) hg hB hn (by omega) (by omega) (plain_P hB h1 h2) ?_
    refine lev2 (nb := nb) hg (by omega) ?_
    refine c_readPlain hg hB hn (by omega) hdp h1 h2 (fun h => h4 h _ (by omega)) ?_
    exact c_readCmp hg hB hn (by omega) (sum_P hB h1) (s3 _ (by omega))
  intro nb
  induction nb with
  | zero =>
    intro dp hdp
    exact step 0 dp _ _ hdp (fun z => absurd rfl z) (fun z => absurd rfl z) (fun z => absurd rfl z) (fun z => absurd rfl z)
  | succ nb ih =>
    intro dp hdp
    have ih := ih (dp + 1) (by omega)
    have hp := all_P (n := n) hB nb
    exact step (nb + 1) dp _ _ hdp (fun _ => hp.1) (fun _ => hp.2) (fun _ D hD => ih.1 D (by omega)) (fun _ D hD => ih.2 D (by omega))
end RD4
