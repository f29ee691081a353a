/-! ===== the class reads expressions: its methods, on ===== -/
section RD3
variable {g : aG} {B : Nat → Nat} {n : Nat}
theorem jmp_post {I0 I : Nat → Nat → Int32} {p lv u u1 o X : Nat} {C D : List Nat} (h0 : FD I0 I) (h1 : I 23 1 = I0 23 1) (hR : RD B n p lv u1 I) (h29 : ∀ i, i < u → I 29 i = I0 29 i) (hc : hC C u (I 29)) (hd : hC D (u + C.length + 1) (I 29)) : FD I0 (u2 I 29 (u + C.length) (nI X)) ∧ u2 I 29 (u + C.length) (nI X) 23 1 = I0 23 1 ∧ RD B n p lv u1 (u2 I 29 (u + C.length) (nI X)) ∧ (∀ i, i < u → u2 I 29 (u + C.length) (nI X) 29 i = I0 29 i) ∧ hC (C ++ [X] ++ D) u (u2 I 29 (u + C.length) (nI X) 29) := by
  refine ⟨⟨fun a x1 x2 x3 => ?_, fun k hk => ?_, fun k hk => ?_⟩, ?_, RD_u hR (by omega) (by omega) (by omega), fun i hi => ?_, ?_⟩
  · rw [u2_r x3]; exact h0.1 a x1 x2 x3
  · rw [u2_a (by decide)]; exact h0.2.1 k hk
  · rw [u2_a (by decide)]; exact h0.2.2 k hk
  · rw [u2_a (by decide)]; exact h1
  · rw [u2_k (by omega)]; exact h29 i hi
  · rw [hC_app, hC_app]
    refine ⟨⟨fun i hi => ?_, hC_1.2 u2_s⟩, fun i hi => ?_⟩
    · rw [u2_k (by omega)]; exact hc i hi
    · rw [List.length_append, ← Nat.add_assoc]
      show u2 I 29 (u + C.length) (nI X) 29 (u + C.length + 1 + i) = _
      rw [u2_k (by omega)]; exact hd i hi
theorem loopL (hg : Geo g) (hB : ∀ i, B i ≤ 255) (hn : n ≤ 400) {D L dp p lv u bR : Nat} {f : aF} {I0 : Nat → Nat → Int32} {J : Nat → Nat → Int64} {Q : aQ} (hD : 2 ≤ D) (hL : L = 0 ∨ L = 1) (hu : u ≤ p) (hPf : PP n 1 f) (hf : OKC B n g D m_Reader_readLevel [.ref 23, .int (nI (L + 1)), .int (nI dp)] f) : ∀ fu k, k + fu = 400 → ∀ w I, GPs n 1 u bR p lv w → FD I0 I → I 23 1 = I0 23 1 → RD B n w.1 w.2.1 (u + w.2.2.1.length) I → (∀ i, i < u → I 29 i = I0 29 i) → hC w.2.2.1 u (I 29) → KF B n g I0 J Q u (lpL B n (opL L) f u bR fu w) → ∀ v4 v5, a_wp aTab aMX D m_Reader_readLevel 37 [.ref 23, .int (nI L), .int (nI dp), .int (nI k), v4, v5] [] (g, I, J) Q := by
  have ops : ∀ t o, opL L t = some o → (o = 10 ∨ o = 11) ∧ t ≠ 256 := by
    intro t o h
    rcases hL with e | e
    · rw [e] at h
      have := oO_o h
      exact ⟨Or.inl this.1, by omega⟩
    · rw [e] at h
      have := oA_o h
      exact ⟨Or.inr this.1, by omega⟩
  intro fu
  induction fu with
  | zero =>
    intro k hk w I hw h0 h1 hR h29 hc hK v4 v5
    rw [b_Reader_readLevel_37, rlf (by omega) (by omega) (by omega), b_Reader_readLevel_133]
    exact KF_s (w := w) hK I h0 h1 hR h29 hc
  | succ fu ih =>
    intro k hk w I hw h0 h1 hR h29 hc hK v4 v5
    have ht := tk_le (n := n) (p := w.1) hB
    rw [b_Reader_readLevel_37, rlt2 (by omega) (by omega) (by omega), b_Reader_readLevel_44 hg, c_opAt hg (by omega) (by omega) ht hR.1.1]
    simp only [exI]
    rw [b_Reader_readLevel_49]
    unfold lpL at hK
    cases e : opL L (tk B n w.1) with
    | none =>
      rw [e] at hK
      rw [if_pos (show oI none = (-1 : Int32) from rfl), b_Reader_readLevel_57]
      exact KF_s (w := w) hK I h0 h1 hR h29 hc
    | some o =>
      rw [e] at hK
      have ho := ops _ _ e
      have ho16 : o < 16 := by omega
      have hlt := tk_ne (n := n) (p := w.1) hB rfl ho.2
      have hln := le_le (B := B) hw.2.2.2.1
      have b1 := hw.1
      rw [if_neg (show ¬ oI (some o) = (-1 : Int32) from nI_m1 (by omega)), b_Reader_readLevel_59 hg, rlt2 (by omega) (by omega) (by omega), hR.2.2.2.2, b_Reader_readLevel_73 hg]
      refine c_sAdd (x := 0) hg (by omega) (u := u + w.2.2.1.length) (by omega) (by omega) (by omega) hR.2.2.2.2 ?_
      simp only [exV, true_and]
      rw [b_Reader_readLevel_83 hg, show 0 * 16 + o = o by omega]
      obtain ⟨p1, p2, p3, p4, p5⟩ := add_post (x := o) h0 h1 hR h29 hc
      have elen : (w.2.2.1 ++ [o]).length = w.2.2.1.length + 1 := by rw [List.length_append]; rfl
      rw [elen] at p3
      generalize u2 (u2 I 29 (u + w.2.2.1.length) (nI o)) 24 2 (nI (u + w.2.2.1.length + 1)) = I1 at *
      refine c_radv hg hB hn (by omega) hw.2.2.2.1 p3 ?_
      intro I2 g1 g2
      obtain ⟨g3, g4, g5⟩ := FD_adv g1
      simp only [exV, true_and]
      rw [b_Reader_readLevel_87 hg, nadd]
      refine hf (le B n w.1) w.2.1 (u + w.2.2.1.length + 1) (bR + w.2.2.2.1.length + 1) I2 J _ (by rw [Nat.add_assoc]; exact g2) (by omega) hln hw.2.2.2.2.2.1 ⟨?_, ?_⟩
      · intro q eq I3 f1 f2
        simp only [exI]
        rw [b_Reader_readLevel_95, if_pos rfl, b_Reader_readLevel_98]
        have eq : f (le B n w.1) w.2.1 (u + w.2.2.1.length + 1) (bR + w.2.2.2.1.length + 1) = .inl q := eq
        rw [eq] at hK
        exact KF_l (q := q) hK (FD_t (FD_t p1 g3) f1) f2
      · intro z eq I3 f1 f2 f3 f4 f5
        simp only [exI]
        have hz := hPf (le B n w.1) w.2.1 (u + w.2.2.1.length + 1) (bR + w.2.2.2.1.length + 1) hln z eq
        have eq : f (le B n w.1) w.2.1 (u + w.2.2.1.length + 1) (bR + w.2.2.2.1.length + 1) = .inr z := eq
        rw [eq] at hK
        have hlog := log_P ho.1 hlt hw hz
        have b2 := hz.1
        have b3 := hz.2.2.2.1
        rw [b_Reader_readLevel_95, if_neg (by decide), b_Reader_readLevel_100, rlt2 (by omega) (by omega) (by omega), b_Reader_readLevel_105 hg]
        obtain ⟨hc1, hc2⟩ := hC_app.1 p5
        have hc2 := hC_1.1 hc2
        have e29 : I3 29 (u + w.2.2.1.length) = nI o := by rw [f4 _ (by omega), g5]; exact hc2
        refine c_jump (o := o) (u := u + w.2.2.1.length + 1 + z.2.2.1.length) hg (by omega) (by omega) ho16 (by omega) f3.2.2.2.2 e29 ?_
        simp only [exV, true_and]
        rw [b_Reader_readLevel_114, b_Reader_readLevel_127, nadd]
        obtain ⟨y1, y2, y3, y4, y5⟩ := jmp_post (o := o) (C := w.2.2.1) (D := z.2.2.1) (X := (u + w.2.2.1.length + 1 + z.2.2.1.length) * 16 + o) (FD_t (FD_t p1 g3) f1) (f2.trans (g4.trans p2)) f3 (fun i hi => by rw [f4 i (by omega), g5]; exact p4 i hi) (fun i hi => by rw [f4 (u + i) (by omega), g5]; exact hc1 i hi) f5
        refine ih (k + 1) (by omega) _ _ hlog y1 y2 ?_ y4 y5 hK _ _
        show RD B n z.1 z.2.1 (u + (w.2.2.1 ++ [(u + w.2.2.1.length + 1 + z.2.2.1.length) * 16 + o] ++ z.2.2.1).length) _
        rw [show (w.2.2.1 ++ [(u + w.2.2.1.length + 1 + z.2.2.1.length) * 16 + o] ++ z.2.2.1).length = w.2.2.1.length + 1 + z.2.2.1.length by rw [List.length_append, List.length_append]; rfl, show u + (w.2.2.1.length + 1 + z.2.2.1.length) = u + w.2.2.1.length + 1 + z.2.2.1.length by omega]
        exact y3
theorem c_rtake (hg : Geo g) (hB : ∀ i, B i ≤ 255) (hn : n ≤ 400) {I : Nat → Nat → Int32} {J : Nat → Nat → Int64} {Q : aQ} {D t p lv u : Nat} (hD : 3 ≤ D) (ht : t ≤ 276) (hp : p ≤ n) (hR : RD B n p lv u I) (h0 : tk B n p ≠ t → Q (some (.int (nI 0))) (g, u2 I 23 1 (nI (ls B n p)), J)) (h1 : tk B n p = t → ∀ I', (∀ a k, ¬ (a = 23 ∧ (k = 6 ∨ k = 7 ∨ k = 8 ∨ k = 9)) → I' a k = I a k) → RD B n (le B n p) lv u I' → Q (some (.int (nI 1))) (g, I', J)) : a_call aTab aMX D m_Reader_take [.ref 23, .int (nI t)] (g, I, J) Q := by
  obtain ⟨e, rfl⟩ : ∃ e, D = e + 1 := ⟨D - 1, by omega⟩
  have htk := tk_le (n := n) (p := p) hB
  rw [e_Reader_take, b_Reader_take_0 hg, hR.1.1, req (by omega) (by omega)]
  by_cases q : tk B n p = t
  · rw [if_pos q, b_Reader_take_13 hg]
    refine c_radv hg hB hn (by omega) hp hR ?_
    intro I' g1 g2
    simp only [exV, true_and]
    rw [b_Reader_take_17]
    exact h1 q I' g1 g2
  · rw [if_neg q, b_Reader_take_8 hg]
    refine c_rfail hg (by omega) hR.1.2.1 ?_
    simp only [exI]
    rw [b_Reader_take_12]
    exact ⟨by decide, h0 q⟩
theorem FD_f {I0 I : Nat → Nat → Int32} {v : Int32} (h : FD I0 I) : FD I0 (u2 I 23 1 v) := ⟨fun a x y z => by rw [u2_r x]; exact h.1 a x y z, fun k hk => by rw [u2_k (by omega)]; exact h.2.1 k hk, fun k hk => by rw [u2_a (by decide)]; exact h.2.2 k hk⟩
theorem c_readWithin (hg : Geo g) (hB : ∀ i, B i ≤ 255) (hn : n ≤ 400) {D L dp cl nb : Nat} {f : aF} (hD : 5 ≤ D) (hcl : cl ≤ 276) (hdp : dp + nb = 8) (hf : nb ≠ 0 → OKC B n g (D - 1) m_Reader_readLevel [.ref 23, .int (nI L), .int (nI (dp + 1))] f) {k : Nat} (hPf : nb ≠ 0 → PP n k f) {p lv u bR : Nat} {I : Nat → Nat → Int32} {J : Nat → Nat → Int64} {Q : aQ} (hR : RD B n p lv u I) (hu : u ≤ p) (hp : p ≤ n) (hlv : lv ≤ 50) (htk : tk B n p ≠ 256) (hK : KF B n g I J Q u (if nb = 0 then .inl (ls B n p) else pIn B n f cl p lv u bR)) : a_call aTab aMX D m_Reader_readWithin [.ref 23, .int (nI L), .int (nI dp), .int (nI cl)] (g, I, J) Q := by
  obtain ⟨e, rfl⟩ : ∃ e, D = e + 1 := ⟨D - 1, by omega⟩
  rw [e_Reader_readWithin, b_Reader_readWithin_0, rlt (by omega) (by omega)]
  by_cases q : nb = 0
  · rw [if_pos q] at hK
    rw [if_neg (by omega), b_Reader_readWithin_6 hg]
    refine c_rfail hg (by omega) hR.1.2.1 ?_
    simp only [exI]
    rw [b_Reader_readWithin_10]
    exact ⟨by decide, KF_l hK (FD_f (FD_r I)) u2_s⟩
  rw [if_neg q] at hK
  rw [if_pos (by omega), b_Reader_readWithin_11 hg]
  refine c_radv hg hB hn (by omega) hp hR ?_
  intro I2 g1 g2
  obtain ⟨g3, g4, g5⟩ := FD_adv g1
  have hlt := (le_gt (n := n) (p := p) hB htk).1
  have hln := le_le (B := B) hp
  simp only [exV, true_and]
  rw [b_Reader_readWithin_15 hg, nadd]
  unfold pIn at hK
  refine hf q (le B n p) lv u bR I2 J _ g2 (by omega) hln hlv ⟨?_, ?_⟩
  · intro y eq I3 f1 f2
    rw [eq] at hK
    simp only [exI]
    rw [b_Reader_readWithin_23, if_pos rfl, b_Reader_readWithin_26]
    exact KF_l (q := y) hK (FD_t g3 f1) f2
  · intro z eq I3 f1 f2 f3 f4 f5
    have hz := hPf q (le B n p) lv u bR hln z eq
    rw [eq] at hK
    have hK : KF B n g I J Q u (if tk B n z.1 = cl then .inr (le B n z.1, z.2) else .inl (ls B n z.1)) := hK
    simp only [exI]
    have htz := tk_le (n := n) (p := z.1) hB
    rw [b_Reader_readWithin_23, if_neg (by decide), b_Reader_readWithin_28 hg, f3.1.1, req (by omega) (by omega)]
    by_cases heq : tk B n z.1 = cl
    · rw [if_pos heq] at hK
      rw [if_pos heq, b_Reader_readWithin_41 hg]
      refine c_radv hg hB hn (by omega) hz.2.2.2.1 f3 ?_
      intro I4 y1 y2
      obtain ⟨y3, y4, y5⟩ := FD_adv y1
      simp only [exV, true_and]
      rw [b_Reader_readWithin_45]
      refine KF_s (w := (le B n z.1, z.2)) hK I4 (FD_t (FD_t g3 f1) y3) (y4.trans (f2.trans g4)) y2 (fun i hi => ?_) (fun i hi => ?_)
      · rw [y5, f4 i hi, g5]
      · rw [y5]; exact f5 i hi
    · rw [if_neg heq] at hK
      rw [if_neg heq, b_Reader_readWithin_36 hg]
      refine c_rfail hg (by omega) f3.1.2.1 ?_
      simp only [exI]
      rw [b_Reader_readWithin_40]
      exact ⟨by decide, KF_l hK (FD_f (FD_t g3 f1)) u2_s⟩
theorem c_readPart (hg : Geo g) (hB : ∀ i, B i ≤ 255) (hn : n ≤ 400) {D dp nb : Nat} {fS : aF} (hD : 6 ≤ D) (hdp : dp + nb = 8) (hf : nb ≠ 0 → OKC B n g (D - 2) m_Reader_readLevel [.ref 23, .int (nI 3), .int (nI (dp + 1))] fS) (hPf : nb ≠ 0 → PP n 0 fS) : OKC B n g D m_Reader_readPart [.ref 23, .int (nI dp)] (pPart B n nb fS) := by
  intro p lv u bR I J Q hR hu hp hlv hK
  obtain ⟨e, rfl⟩ : ∃ e, D = e + 1 := ⟨D - 1, by omega⟩
  have htk := tk_le (n := n) (p := p) hB
  obtain ⟨t, et⟩ : ∃ t, t = tk B n p := ⟨_, rfl⟩
  obtain ⟨vl, ev⟩ : ∃ vl, vl = nv B n p := ⟨_, rfl⟩
  have hv : vl ≤ 100000 := by rw [ev]; exact vv_le _ _ _
  have h6 : I 23 6 = nI t := by rw [et]; exact hR.1.1
  have h9 : I 23 9 = nI vl := by rw [ev]; exact hR.1.2.2.2
  unfold pPart at hK
  rw [← et] at hK htk
  rw [e_Reader_readPart, b_Reader_readPart_0 hg, h6, req (by omega) (by omega)]
  by_cases q : t = 91
  · rw [if_pos q] at hK
    rw [if_pos q, b_Reader_readPart_9 hg]
    refine c_readWithin (D := e) (k := 0) (f := fS) (nb := nb) (bR := bR) hg hB hn (by omega) (by omega) hdp (fun h => by have := hf h; rw [show e + 1 - 2 = e - 1 by omega] at this; exact this) hPf hR hu hp hlv (by rw [← et]; omega) ?_
    refine ⟨fun y eq I' x1 x2 => ?_, fun w eq I' x1 x2 x3 x4 x5 => ?_⟩
    · simp only [exI]
      rw [b_Reader_readPart_17]
      exact ⟨by decide, hK.1 y eq I' x1 x2⟩
    · simp only [exI]
      rw [b_Reader_readPart_17]
      exact ⟨by decide, hK.2 w eq I' x1 x2 x3 x4 x5⟩
  rw [if_neg q] at hK
  unfold pLeaf at hK
  rw [← et, ← ev] at hK
  rw [if_neg q, b_Reader_readPart_18 hg, h6, req (by omega) (by omega)]
  -- fail
  have bad : (∃ q, q = ls B n p ∧ KF B n g I J Q u (.inl q)) → ∀ v1 v2 v3, a_wp aTab aMX e m_Reader_readPart 87 [.ref 23, v1, v2, v3] [] (g, I, J) Q := by
    rintro ⟨y, hy, hKy⟩ v1 v2 v3
    rw [b_Reader_readPart_87 hg]
    refine c_rfail hg (by omega) hR.1.2.1 ?_
    simp only [exI]
    rw [b_Reader_readPart_91]
    exact ⟨by decide, KF_l hKy (FD_f (FD_r I)) (by rw [hy]; exact u2_s)⟩
  -- the end of a good part
  have tail : ∀ (x : Nat) (R : List (Nat × Nat)) (v : aV), KF B n g I J Q u (.inr (le B n p, lv + 1, [x], R, v)) → a_wp aTab aMX e m_Reader_readPart 137 [.ref 23, aU, aU, aU] [] (g, u2 (u2 (u2 I 23 10 (nI (lv + 1))) 29 u (nI x)) 24 2 (nI (u + 1)), J) Q := by
    intro x R v hKx
    rw [b_Reader_readPart_137 hg]
    have hR1 : RD B n p (lv + 1) u (u2 I 23 10 (nI (lv + 1))) := by
      obtain ⟨⟨c1, c2, c3, c4⟩, r2, r3, r4, r5⟩ := hR
      exact ⟨⟨by rw [u2_k (by decide)]; exact c1, by rw [u2_k (by decide)]; exact c2, by rw [u2_k (by decide)]; exact c3, by rw [u2_k (by decide)]; exact c4⟩, by rw [u2_k (by decide)]; exact r2, fun i hi => by rw [u2_a (by decide)]; exact r3 i hi, u2_s, by rw [u2_a (by decide)]; exact r5⟩
    have hF1 : FD I (u2 I 23 10 (nI (lv + 1))) := ⟨fun a x y z => by rw [u2_r x], fun k hk => by rw [u2_k (by omega)], fun k hk => by rw [u2_a (by decide)]⟩
    obtain ⟨p1, p2, p3, p4, p5⟩ := add_post (C := []) (x := x) (u := u) hF1 (by rw [u2_k (by decide)]) hR1 (fun i hi => by rw [u2_a (by decide)]) (fun i hi => absurd hi (Nat.not_lt_zero _))
    have p3 : RD B n p (lv + 1) (u + 1) (u2 (u2 (u2 I 23 10 (nI (lv + 1))) 29 u (nI x)) 24 2 (nI (u + 1))) := p3
    refine c_radv hg hB hn (by omega) hp p3 ?_
    intro I2 g1 g2
    obtain ⟨g3, g4, g5⟩ := FD_adv g1
    simp only [exV, true_and]
    rw [b_Reader_readPart_141]
    refine KF_s (w := (le B n p, lv + 1, [x], R, v)) hKx I2 (FD_t p1 g3) (g4.trans p2) g2 (fun i hi => ?_) (fun i hi => ?_)
    · rw [g5]; exact p4 i hi
    · rw [g5]; exact p5 i hi
  have hlt : t ≠ 256 → u < 400 := by
    intro h
    have := (le_gt (n := n) (p := p) hB (by rw [← et]; exact h)).1
    have := le_le (B := B) hp
    omega
  have e10 : u2 I 23 10 (nI (lv + 1)) 24 2 = nI u := by rw [u2_a (by decide)]; exact hR.2.2.2.2
  by_cases q1 : t = 257 ∧ vl ≤ 1000
  · simp (disch := omega) only [b_Reader_readPart_28 hg, b_Reader_readPart_38, b_Reader_readPart_43 hg, b_Reader_readPart_68, b_Reader_readPart_69, b_Reader_readPart_78 hg, ↓reduceIte, nadd, nmul, nsub, nlt, neq, ncl, nvi, ndiv, nrem, exI, exJ, exV, eq_self, true_and, and_true, true_or, or_true, if_true, if_false, not_true, not_false_eq_true, false_and, and_false, decide_true, decide_false, bi_T, bi_F, bi_0, bi_1, bi_z, bft, n10, n01, Nat.reduceEqDiff, Nat.reduceLT, Nat.reduceAdd, Nat.reduceMul, reduceCtorEq, q1.1, h9, h6, show ¬ 1000 < vl by omega, hR.2.2.2.1, Nat.one_ne_zero]
    by_cases q2 : lv < 50
    · rw [if_pos q2, if_pos q1] at hK
      rw [if_pos q2]
      simp (disch := omega) only [b_Reader_readPart_92 hg, ↓reduceIte, nadd, nmul, nsub, nlt, neq, ncl, nvi, ndiv, nrem, exI, exJ, exV, eq_self, true_and, and_true, true_or, or_true, if_true, if_false, not_true, not_false_eq_true, false_and, and_false, decide_true, decide_false, bi_T, bi_F, bi_0, bi_1, bi_z, bft, n10, n01, Nat.reduceEqDiff, Nat.reduceLT, Nat.reduceAdd, Nat.reduceMul, reduceCtorEq, hR.2.2.2.1, Nat.one_ne_zero]
      rw [b_Reader_readPart_106 hg, u2_k (by decide), h9]
      refine c_sAdd hg (by omega) (hlt (by omega)) (by omega) (by omega) e10 ?_
      simp only [exV, true_and]
      rw [b_Reader_readPart_118]
      exact tail _ _ _ hK
    · rw [if_neg q2] at hK
      rw [if_neg q2]
      exact bad ⟨_, rfl, hK⟩ _ _ _
  · have to43 : (if t = 257 then a_wp aTab aMX e m_Reader_readPart 28 [.ref 23, aU, aU, aU] [] (g, I, J) Q else a_wp aTab aMX e m_Reader_readPart 42 [.ref 23, aU, aU, aU] [] (g, I, J) Q) = a_wp aTab aMX e m_Reader_readPart 42 [.ref 23, aU, aU, aU] [] (g, I, J) Q := by
      by_cases q3 : t = 257
      · rw [if_pos q3, b_Reader_readPart_28 hg, h9, rlt2 (by omega) (by omega) (by omega)]
      · rw [if_neg q3]
    rw [to43, b_Reader_readPart_42, b_Reader_readPart_43 hg, h6, rlt (by omega) (by omega)]
    by_cases q4 : 259 ≤ t ∧ t ≤ 266
    · rw [if_neg (by omega)]
      simp (disch := omega) only [b_Reader_readPart_54 hg, b_Reader_readPart_64, b_Reader_readPart_69, b_Reader_readPart_74, b_Reader_readPart_78 hg, ↓reduceIte, nadd, nmul, nsub, nlt, neq, ncl, nvi, ndiv, nrem, exI, exJ, exV, eq_self, true_and, and_true, true_or, or_true, if_true, if_false, not_true, not_false_eq_true, false_and, and_false, decide_true, decide_false, bi_T, bi_F, bi_0, bi_1, bi_z, bft, n10, n01, Nat.reduceEqDiff, Nat.reduceLT, Nat.reduceAdd, Nat.reduceMul, reduceCtorEq, h6, show ¬ 266 < t by omega, hR.2.2.2.1, Nat.one_ne_zero]
      by_cases q2 : lv < 50
      · rw [if_pos q2, if_neg q1, if_pos q4] at hK
        rw [if_pos q2]
        simp (disch := omega) only [b_Reader_readPart_92 hg, ↓reduceIte, nadd, nmul, nsub, nlt, neq, ncl, nvi, ndiv, nrem, exI, exJ, exV, eq_self, true_and, and_true, true_or, or_true, if_true, if_false, not_true, not_false_eq_true, false_and, and_false, decide_true, decide_false, bi_T, bi_F, bi_0, bi_1, bi_z, bft, n10, n01, Nat.reduceEqDiff, Nat.reduceLT, Nat.reduceAdd, Nat.reduceMul, reduceCtorEq, hR.2.2.2.1]
        rw [b_Reader_readPart_121 hg, u2_k (by decide), h6, nsub (by omega)]
        refine c_sAdd hg (by omega) (hlt (by omega)) (by omega) (by omega) e10 ?_
        simp only [exV, true_and]
        exact tail _ _ _ hK
      · rw [if_neg q2] at hK
        rw [if_neg q2]
        exact bad ⟨_, rfl, hK⟩ _ _ _
    · have hbad : KF B n g I J Q u (.inl (ls B n p)) := by
        by_cases q2 : lv < 50
        · rw [if_pos q2, if_neg q1, if_neg q4] at hK; exact hK
        · rw [if_neg q2] at hK; exact hK
      have fin : ∀ v1, a_wp aTab aMX e m_Reader_readPart 68 [.ref 23, v1, .int (nI 0), aU] [] (g, I, J) Q := by
        intro v1
        simp (disch := omega) only [b_Reader_readPart_68, b_Reader_readPart_69, b_Reader_readPart_74, ↓reduceIte, nadd, nmul, nsub, nlt, neq, ncl, nvi, ndiv, nrem, exI, exJ, exV, eq_self, true_and, and_true, true_or, or_true, if_true, if_false, not_true, not_false_eq_true, false_and, and_false, decide_true, decide_false, bi_T, bi_F, bi_0, bi_1, bi_z, bft, n10, n01, Nat.reduceEqDiff, Nat.reduceLT, Nat.reduceAdd, Nat.reduceMul, reduceCtorEq]
        exact bad ⟨_, rfl, hbad⟩ _ _ _
      by_cases q5 : t < 259
      · rw [if_pos q5]; exact fin _
      · rw [if_neg q5, b_Reader_readPart_54 hg, h6, rlt2 (by omega) (by omega) (by omega)]
        exact fin _
end RD3
