/-! ===== the class reads a text: clauses ===== -/
section TX2
variable {B : Nat → Nat} {n : Nat}
theorem law_P (h : ∀ i, B i ≤ 255) {hd p : Nat} {s s' : aT} (hs : TI n s) (hp : s.1 ≤ p) (hpn : p ≤ n) (h1 : 1 ≤ hd) (h3 : hd ≤ 3) (e : pLaw B n hd p s = .inr s') : TI n s' ∧ s'.2.2.2.2.1 = s.2.2.2.2.1 ∧ s'.2.2.2.2.2.length = s.2.2.2.2.2.length + 1 := by
  unfold pLaw at e
  obtain ⟨w, hw, e⟩ := thx_r e
  obtain ⟨z, hz, e⟩ := thx_r e
  cases e
  obtain ⟨i1, i2, i3, i4, i5, i6⟩ := hs
  obtain ⟨a1, a2, a3, a4, a5, a6⟩ := ls_P h hpn i4 hw
  obtain ⟨b1, b2, b3, b4, b5, b6⟩ := lt_P h a3 a5 hz
  have lC : (s.2.2.1 ++ w.2.2.1 ++ z.2.2.1).length = s.2.2.1.length + w.2.2.1.length + z.2.2.1.length := by rw [List.length_append, List.length_append]
  have lR : (s.2.2.2.1 ++ w.2.2.2.1 ++ z.2.2.2.1).length = s.2.2.2.1.length + w.2.2.2.1.length + z.2.2.2.1.length := by rw [List.length_append, List.length_append]
  have lC1 : (s.2.2.1 ++ w.2.2.1).length = s.2.2.1.length + w.2.2.1.length := List.length_append
  have lR1 : (s.2.2.2.1 ++ w.2.2.2.1).length = s.2.2.2.1.length + w.2.2.2.1.length := List.length_append
  refine ⟨⟨b3, ?_, ?_, b5, i5, ?_⟩, rfl, by rw [List.length_append]; rfl⟩
  · show (s.2.2.1 ++ w.2.2.1 ++ z.2.2.1).length ≤ z.1
    omega
  · show (s.2.2.2.1 ++ w.2.2.2.1 ++ z.2.2.2.1).length ≤ z.1
    omega
  · intro l hl
    rcases List.mem_append.1 hl with hl | hl
    · show LWp (s.2.2.1 ++ w.2.2.1 ++ z.2.2.1) (s.2.2.2.1 ++ w.2.2.2.1 ++ z.2.2.2.1) l
      exact LWp_m (LWp_m (i6 l hl))
    · have hl := List.mem_singleton.1 hl
      rw [hl]
      refine ⟨h1, h3, ⟨?_, Nat.le_refl _⟩, ⟨?_, Nat.le_refl _⟩, w.2.1 - s.2.1, z.2.1 - w.2.1, by omega, by omega, fun cC cR g1 g2 => ?_⟩
      · show (s.2.2.1 ++ w.2.2.1).length ≤ (s.2.2.1 ++ w.2.2.1 ++ z.2.2.1).length
        omega
      · show (s.2.2.2.1 ++ w.2.2.2.1).length ≤ (s.2.2.2.1 ++ w.2.2.2.1 ++ z.2.2.2.1).length
        omega
      · obtain ⟨g1, g3⟩ := hC_app.1 g1
        obtain ⟨g2, g4⟩ := hR_app.1 g2
        obtain ⟨g1, g5⟩ := hC_app.1 g1
        obtain ⟨g2, g6⟩ := hR_app.1 g2
        rw [Nat.zero_add] at g3 g4 g5 g6
        refine ⟨fun hne => ?_, ?_⟩
        · have := a6 cC cR g5 g6 hne
          show Der cC cR 0 s.2.2.2.1.length (s.2.2.2.1 ++ w.2.2.2.1).length s.2.2.1.length (s.2.2.1 ++ w.2.2.1).length (w.2.1 - s.2.1) w.2.2.2.2
          rw [lC1, lR1]; exact this
        · rcases b6 cC cR g3 g4 with ⟨y1, y2, y3⟩ | y
          · left
            refine ⟨?_, ?_, y3⟩
            · show (s.2.2.1 ++ w.2.2.1).length = (s.2.2.1 ++ w.2.2.1 ++ z.2.2.1).length
              rw [y1, List.append_nil]
            · show (s.2.2.2.1 ++ w.2.2.2.1).length = (s.2.2.2.1 ++ w.2.2.2.1 ++ z.2.2.2.1).length
              rw [y2, List.append_nil]
          · right
            show Der cC cR 1 (s.2.2.2.1 ++ w.2.2.2.1).length (s.2.2.2.1 ++ w.2.2.2.1 ++ z.2.2.2.1).length (s.2.2.1 ++ w.2.2.1).length (s.2.2.1 ++ w.2.2.1 ++ z.2.2.1).length (z.2.1 - w.2.1) z.2.2.2.2
            rw [lC, lR, ← lC1, ← lR1]; exact y
theorem cla_P (h : ∀ i, B i ≤ 255) {s s' : aT} (hs : TI n s) (e : pCla B n s = .inr s') : TI n s' ∧ s'.2.2.2.2.1.length + s'.2.2.2.2.2.length = s.2.2.2.2.1.length + s.2.2.2.2.2.length + 1 := by
  unfold pCla at e
  split at e
  · obtain ⟨w, hw, e⟩ := thx_r e
    cases e
    obtain ⟨i1, i2, i3, i4, i5, i6⟩ := hs
    have := move_P i1 hw
    refine ⟨⟨this.1, by show s.2.2.1.length ≤ w.1; omega, by show s.2.2.2.1.length ≤ w.1; omega, i4, ?_, i6⟩, ?_⟩
    · intro v hv
      rcases List.mem_append.1 hv with hv | hv
      · exact i5 v hv
      · rw [List.mem_singleton.1 hv]; exact this.2.2
    · show (s.2.2.2.2.1 ++ [w.2]).length + s.2.2.2.2.2.length = _
      rw [List.length_append, List.length_singleton]; omega
  · split at e
    · rename_i q
      have hg : s.1 ≤ le B n s.1 := le_ge
      have := law_P h hs hg (le_le hs.1) (by omega) (by omega) e
      refine ⟨this.1, ?_⟩
      rw [this.2.1, this.2.2]; omega
    · cases e
theorem tx_P (h : ∀ i, B i ≤ 255) : ∀ k c s w, TI n s → s.2.2.2.2.1.length + s.2.2.2.2.2.length = c → pTx B n k c s = .inr w → TI n w.2 ∧ w.2.2.2.2.2.1.length + w.2.2.2.2.2.2.length = w.1 ∧ w.1 ≤ c + k
  | 0, c, s, w, _, _, e => by cases e
  | k + 1, c, s, w, hs, hc, e => by
    unfold pTx at e
    obtain ⟨u, hu, e⟩ := thx_r e
    have := cla_P h hs hu
    split at e
    · cases e
      exact ⟨this.1, by show u.2.2.2.2.1.length + u.2.2.2.2.2.length = c + 1; omega, by show c + 1 ≤ c + (k + 1); omega⟩
    · split at e
      · have hg : u.1 ≤ le B n u.1 := le_ge
        obtain ⟨i1, i2, i3, i4, i5, i6⟩ := this.1
        have ih := tx_P h k (c + 1) (le B n u.1, u.2) w ⟨le_le i1, by show u.2.2.1.length ≤ le B n u.1; omega, by show u.2.2.2.1.length ≤ le B n u.1; omega, i4, i5, i6⟩ (by show u.2.2.2.2.1.length + u.2.2.2.2.2.length = c + 1; omega) e
        exact ⟨ih.1, ih.2.1, by omega⟩
      · cases e
theorem s0_TI : TI n s0 := ⟨Nat.zero_le _, Nat.le_refl _, Nat.le_refl _, by decide, fun w hw => (by cases hw), fun w hw => (by cases hw)⟩
end TX2
section CT2
variable {g : aG} {B : Nat → Nat} {n : Nat} {I : Nat → Nat → Int32} {J : Nat → Nat → Int64} {Q : aQ}
theorem FD_FT {I I' : Nat → Nat → Int32} (h : FD I I') : FT I I' := fun a ha => h.1 a (by omega) (by omega) (by omega)
theorem CT_FD {s : aT} {I' : Nat → Nat → Int32} {p lv : Nat} {D : List Nat} {R' : List (Nat × Nat)} (h : CT B n s I) (hF : FD I I') (hR : RD B n p lv (s.2.2.1.length + D.length) I') (h29 : ∀ i, i < s.2.2.1.length → I' 29 i = I 29 i) (hD : hC D s.2.2.1.length (I' 29)) : CT B n (p, lv, s.2.2.1 ++ D, R', s.2.2.2.2.1, s.2.2.2.2.2) I' := by
  obtain ⟨h1, h2, h3, h4, h5, h6⟩ := h
  refine ⟨?_, ?_, ?_, ?_, fun i w hw => ?_, fun i w hw => ?_⟩
  · show RD B n p lv (s.2.2.1 ++ D).length I'
    rw [List.length_append]; exact hR
  · show hC (s.2.2.1 ++ D) 0 (I' 29)
    rw [hC_app, Nat.zero_add]
    refine ⟨fun i hi => ?_, hD⟩
    rw [h29 (0 + i) (by omega)]; exact h2 i hi
  · rw [hF.2.2 1 (by decide)]; exact h3
  · rw [hF.2.1 4 (by omega)]; exact h4
  · rw [hF.1 25 (by decide) (by decide) (by decide), hF.1 26 (by decide) (by decide) (by decide), hF.1 27 (by decide) (by decide) (by decide), hF.1 28 (by decide) (by decide) (by decide)]
    exact h5 i w hw
  · rw [hF.1 31 (by decide) (by decide) (by decide)]; exact h6 i w hw
/-- a row of the laws is written behind the last one -/
theorem CT_l {s : aT} {a : Nat} {v : Int32} (h : CT B n s I) (ha : 25 ≤ a ∧ a ≤ 28) : CT B n s (u2 I a s.2.2.2.2.2.length v) := by
  obtain ⟨h1, h2, h3, h4, h5, h6⟩ := h
  have hlt : ∀ i w, s.2.2.2.2.2[i]? = some w → i < s.2.2.2.2.2.length := by
    intro i w hw
    apply Classical.byContradiction
    intro z
    rw [List.getElem?_eq_none (by omega)] at hw
    cases hw
  refine ⟨RD_u h1 (by omega) (by omega) (by omega), fun i hi => ?_, ?_, ?_, fun i w hw => ?_, fun i w hw => ?_⟩
  · rw [u2_a (by omega)]; exact h2 i hi
  · rw [u2_a (by omega)]; exact h3
  · rw [u2_a (by omega)]; exact h4
  · have := hlt i w hw
    rw [u2_k (by omega), u2_k (by omega), u2_k (by omega), u2_k (by omega)]
    exact h5 i w hw
  · rw [u2_a (by omega), u2_a (by omega), u2_a (by omega), u2_a (by omega), u2_a (by omega), u2_a (by omega)]
    exact h6 i w hw
theorem c_readClause (hg : Geo g) (hB : ∀ i, B i ≤ 255) (hn : n ≤ 400) {D : Nat} {s : aT} (hD : 56 ≤ D) (hs : TI n s) (hk : s.2.2.2.2.1.length + s.2.2.2.2.2.length < 24) (h3 : I 3 0 = nI 32) (hC0 : CT B n s I) (h0 : ∀ q, pCla B n s = .inl q → ∀ I', FT I I' → I' 23 1 = nI q → Q (some (.int (nI 0))) (g, I', J)) (h1 : ∀ w, pCla B n s = .inr w → ∀ I', FT I I' → I' 23 1 = I 23 1 → CT B n w I' → Q (some (.int (nI 1))) (g, I', J)) : a_call aTab aMX D m_Reader_readClause [.ref 23] (g, I, J) Q := by
  obtain ⟨e, rfl⟩ : ∃ e, D = e + 1 := ⟨D - 1, by omega⟩
  have ht := tk_le (n := n) (p := s.1) hB
  obtain ⟨i1, i2, i3, i4, i5, i6⟩ := hs
  rw [e_Reader_readClause, b_Reader_readClause_0 hg, hC0.1.1.1, req (by omega) (by omega)]
  unfold pCla at h0 h1
  by_cases q1 : tk B n s.1 = 260
  · rw [if_pos q1] at h0 h1
    rw [if_pos q1, b_Reader_readClause_10 hg]
    refine c_readMove hg hB hn (by omega) i1 (by omega) h3 hC0 ?_ ?_
    · intro q eq I' x1 x2
      rw [eq] at h0
      simp only [exI]
      rw [b_Reader_readClause_14]
      exact ⟨by decide, h0 q rfl I' x1 x2⟩
    · intro w eq I' x1 x2 x3
      rw [eq] at h1
      simp only [exI]
      rw [b_Reader_readClause_14]
      exact ⟨by decide, h1 _ rfl I' x1 x2 x3⟩
  rw [if_neg q1] at h0 h1
  rw [if_neg q1, b_Reader_readClause_15 hg, hC0.1.1.1, rlt (by omega) (by omega)]
  have bad : ¬ (270 ≤ tk B n s.1 ∧ tk B n s.1 ≤ 272) → a_wp aTab aMX e m_Reader_readClause 35 [.ref 23, aU] [] (g, I, J) Q := by
    intro q
    rw [if_neg q] at h0
    rw [b_Reader_readClause_35 hg]
    refine c_rfail hg (by omega) hC0.1.1.2.1 ?_
    simp only [exI]
    rw [b_Reader_readClause_39]
    exact ⟨by decide, h0 _ rfl _ (FT_u (FT_r I) (by omega)) u2_s⟩
  by_cases q2 : tk B n s.1 < 270
  · rw [if_pos q2]; exact bad (by omega)
  rw [if_neg q2, b_Reader_readClause_25 hg, hC0.1.1.1, rlt (by omega) (by omega)]
  by_cases q3 : 272 < tk B n s.1
  · rw [if_pos q3]; exact bad (by omega)
  rw [if_pos (by omega)] at h0 h1
  obtain ⟨hd, ehd⟩ : ∃ hd, hd = tk B n s.1 - 269 := ⟨_, rfl⟩
  rw [← ehd] at h0 h1
  rw [if_neg q3, b_Reader_readClause_40 hg, hC0.1.1.1, nadd, nsub (by omega), show 1 + tk B n s.1 - 270 = hd by omega]
  refine c_radv hg hB hn (by omega) i1 hC0.1 ?_
  intro I1 g1 R1
  obtain ⟨p1, ep1⟩ : ∃ p1, p1 = le B n s.1 := ⟨_, rfl⟩
  have hlt : s.1 < p1 := by rw [ep1]; exact (le_gt (n := n) (p := s.1) hB (by omega)).1
  have hle : p1 ≤ n := by rw [ep1]; exact le_le i1
  rw [← ep1] at R1 h0 h1
  obtain ⟨F1, k1, k2⟩ := FD_adv g1
  have C1 : CT B n (p1, s.2.1, s.2.2.1 ++ [], s.2.2.2.1, s.2.2.2.2.1, s.2.2.2.2.2) I1 := CT_FD (D := []) hC0 F1 R1 (fun i hi => by rw [k2]) (fun i hi => absurd hi (Nat.not_lt_zero _))
  rw [List.append_nil] at C1
  simp only [exV, true_and]
  -- the law begins
  obtain ⟨L, eL⟩ : ∃ L, L = s.2.2.2.2.2.length := ⟨_, rfl⟩
  have hL : L < 24 := by omega
  have l1 : I1 24 1 = nI L := by rw [eL]; exact C1.2.2.1
  have l2 : I1 24 2 = nI s.2.2.1.length := C1.1.2.2.2.2
  obtain ⟨e2, he2⟩ : ∃ e2, e = e2 + 1 := ⟨e - 1, by omega⟩
  have hv : vp_in (nI L) 24 := by rw [nvi hL (by omega)]; trivial
  have st : a_wp aTab aMX e m_Reader_readClause 63 [.ref 23, .int (nI hd)] [] (g, u2 (u2 I1 25 L (nI hd)) 26 L (nI s.2.2.1.length), J) Q → a_wp aTab aMX e m_Reader_readClause 55 [.ref 23, .int (nI hd)] [] (g, I1, J) Q := by
    intro w
    rw [b_Reader_readClause_55 hg]
    rw [he2] at w ⊢
    rw [e_Script_startLaw, b_Script_startLaw_0 hg, l1, rlt2 (by omega) (by omega) hL, b_Script_startLaw_9 hg, l1, ncl (by omega), u2_a (by decide), l1, ncl (by omega), u2_a (by decide), l2, b_Script_startLaw_32]
    exact ⟨hv, hv, rfl, w⟩
  refine st ?_
  have C2 : CT B n (p1, s.2.1, s.2.2.1, s.2.2.2.1, s.2.2.2.2.1, s.2.2.2.2.2) (u2 (u2 I1 25 L (nI hd)) 26 L (nI s.2.2.1.length)) := by rw [eL]; exact CT_l (CT_l C1 (by omega)) (by omega)
  have F2 : FT I (u2 (u2 I1 25 L (nI hd)) 26 L (nI s.2.2.1.length)) := FT_u (FT_u (FD_FT F1) (by omega)) (by omega)
  have f1 : u2 (u2 I1 25 L (nI hd)) 26 L (nI s.2.2.1.length) 23 1 = I 23 1 := by rw [u2_a (by decide), u2_a (by decide)]; exact k1
  have r25 : u2 (u2 I1 25 L (nI hd)) 26 L (nI s.2.2.1.length) 25 L = nI hd := by rw [u2_a (by decide), u2_s]
  have r26 : u2 (u2 I1 25 L (nI hd)) 26 L (nI s.2.2.1.length) 26 L = nI s.2.2.1.length := u2_s
  generalize u2 (u2 I1 25 L (nI hd)) 26 L (nI s.2.2.1.length) = I2 at *
  have hall := c_readAll hg hB hn 8 0 rfl
  unfold pLaw at h0 h1
  -- behind the sum
  have at79 : ∀ (w : aS) I3, pLs B n hd p1 s.2.1 s.2.2.1.length s.2.2.2.1.length = .inr w → FT I I3 → I3 23 1 = I 23 1 → CT B n (w.1, w.2.1, s.2.2.1 ++ w.2.2.1, s.2.2.2.1 ++ w.2.2.2.1, s.2.2.2.2.1, s.2.2.2.2.2) I3 → I3 25 L = nI hd → I3 26 L = nI s.2.2.1.length → ∀ v, a_wp aTab aMX e m_Reader_readClause 79 [.ref 23, v] [] (g, I3, J) Q := by
    intro w I3 ew F3 f3 C3 y25 y26 v
    rw [ew] at h0 h1
    have h0 : ∀ q, thx (pLt B n w.1 w.2.1 (s.2.2.1 ++ w.2.2.1).length (s.2.2.2.1 ++ w.2.2.2.1).length) (fun z => (.inr (z.1, z.2.1, s.2.2.1 ++ w.2.2.1 ++ z.2.2.1, s.2.2.2.1 ++ w.2.2.2.1 ++ z.2.2.2.1, s.2.2.2.2.1, s.2.2.2.2.2 ++ [(hd, (s.2.2.1.length, (s.2.2.1 ++ w.2.2.1).length, (s.2.2.1 ++ w.2.2.1 ++ z.2.2.1).length), (s.2.2.2.1.length, (s.2.2.2.1 ++ w.2.2.2.1).length, (s.2.2.2.1 ++ w.2.2.2.1 ++ z.2.2.2.1).length), w.2.2.2.2, z.2.2.2.2)]) : Nat ⊕ aT)) = .inl q → ∀ I', FT I I' → I' 23 1 = nI q → Q (some (.int (nI 0))) (g, I', J) := h0
    have h1 : ∀ y, thx (pLt B n w.1 w.2.1 (s.2.2.1 ++ w.2.2.1).length (s.2.2.2.1 ++ w.2.2.2.1).length) (fun z => (.inr (z.1, z.2.1, s.2.2.1 ++ w.2.2.1 ++ z.2.2.1, s.2.2.2.1 ++ w.2.2.2.1 ++ z.2.2.2.1, s.2.2.2.2.1, s.2.2.2.2.2 ++ [(hd, (s.2.2.1.length, (s.2.2.1 ++ w.2.2.1).length, (s.2.2.1 ++ w.2.2.1 ++ z.2.2.1).length), (s.2.2.2.1.length, (s.2.2.2.1 ++ w.2.2.2.1).length, (s.2.2.2.1 ++ w.2.2.2.1 ++ z.2.2.2.1).length), w.2.2.2.2, z.2.2.2.2)]) : Nat ⊕ aT)) = .inr y → ∀ I', FT I I' → I' 23 1 = I 23 1 → CT B n y I' → Q (some (.int (nI 1))) (g, I', J) := h1
    obtain ⟨a1, a2, a3, a4, a5, a6⟩ := ls_P hB hle i4 ew
    have lC1 : (s.2.2.1 ++ w.2.2.1).length = s.2.2.1.length + w.2.2.1.length := List.length_append
    have m1 : I3 24 1 = nI L := by rw [eL]; exact C3.2.2.1
    have m2 : I3 24 2 = nI (s.2.2.1 ++ w.2.2.1).length := C3.1.2.2.2.2
    have st2 : a_wp aTab aMX e m_Reader_readClause 86 [.ref 23, aU] [] (g, u2 I3 27 L (nI (s.2.2.1 ++ w.2.2.1).length), J) Q → a_wp aTab aMX e m_Reader_readClause 79 [.ref 23, v] [] (g, I3, J) Q := by
      intro w'
      rw [b_Reader_readClause_79 hg]
      rw [he2] at w' ⊢
      rw [e_Script_startTest, b_Script_startTest_0 hg, m1, rlt2 (by omega) (by omega) hL, b_Script_startTest_9 hg, m1, ncl (by omega), m2, b_Script_startTest_22]
      exact ⟨hv, rfl, w'⟩
    refine st2 ?_
    have C4 : CT B n (w.1, w.2.1, s.2.2.1 ++ w.2.2.1, s.2.2.2.1 ++ w.2.2.2.1, s.2.2.2.2.1, s.2.2.2.2.2) (u2 I3 27 L (nI (s.2.2.1 ++ w.2.2.1).length)) := by rw [eL]; exact CT_l C3 (by omega)
    have F4 : FT I (u2 I3 27 L (nI (s.2.2.1 ++ w.2.2.1).length)) := FT_u F3 (by omega)
    have f4 : u2 I3 27 L (nI (s.2.2.1 ++ w.2.2.1).length) 23 1 = I 23 1 := by rw [u2_a (by decide)]; exact f3
    have x25 : u2 I3 27 L (nI (s.2.2.1 ++ w.2.2.1).length) 25 L = nI hd := by rw [u2_a (by decide)]; exact y25
    have x26 : u2 I3 27 L (nI (s.2.2.1 ++ w.2.2.1).length) 26 L = nI s.2.2.1.length := by rw [u2_a (by decide)]; exact y26
    have x27 : u2 I3 27 L (nI (s.2.2.1 ++ w.2.2.1).length) 27 L = nI (s.2.2.1 ++ w.2.2.1).length := u2_s
    generalize u2 I3 27 L (nI (s.2.2.1 ++ w.2.2.1).length) = I4 at *
    -- the law ends
    have at111 : ∀ (z : aS) I5, pLt B n w.1 w.2.1 (s.2.2.1 ++ w.2.2.1).length (s.2.2.2.1 ++ w.2.2.2.1).length = .inr z → FT I I5 → I5 23 1 = I 23 1 → CT B n (z.1, z.2.1, s.2.2.1 ++ w.2.2.1 ++ z.2.2.1, s.2.2.2.1 ++ w.2.2.2.1 ++ z.2.2.2.1, s.2.2.2.2.1, s.2.2.2.2.2) I5 → I5 25 L = nI hd → I5 26 L = nI s.2.2.1.length → I5 27 L = nI (s.2.2.1 ++ w.2.2.1).length → ∀ v, a_wp aTab aMX e m_Reader_readClause 111 [.ref 23, v] [] (g, I5, J) Q := by
      intro z I5 ez F5 f5 C5 t25 t26 t27 v
      rw [ez] at h1
      have n1 : I5 24 1 = nI L := by rw [eL]; exact C5.2.2.1
      have n2 : I5 24 2 = nI (s.2.2.1 ++ w.2.2.1 ++ z.2.2.1).length := C5.1.2.2.2.2
      rw [b_Reader_readClause_111 hg]
      have C6 := CT_l (a := 28) (v := nI (s.2.2.1 ++ w.2.2.1 ++ z.2.2.1).length) C5 (by omega)
      have C6 : CT B n (z.1, z.2.1, s.2.2.1 ++ w.2.2.1 ++ z.2.2.1, s.2.2.2.1 ++ w.2.2.2.1 ++ z.2.2.2.1, s.2.2.2.2.1, s.2.2.2.2.2) (u2 I5 28 L (nI (s.2.2.1 ++ w.2.2.1 ++ z.2.2.1).length)) := by rw [eL]; exact C6
      have fin := h1 _ rfl (u2 (u2 I5 28 L (nI (s.2.2.1 ++ w.2.2.1 ++ z.2.2.1).length)) 24 1 (nI (L + 1))) (FT_u (FT_u F5 (by omega)) (by omega)) (by rw [u2_a (by decide), u2_a (by decide)]; exact f5) ?_
      · rw [he2]
        rw [e_Script_endLaw, b_Script_endLaw_0 hg, n1, rlt2 (by omega) (by omega) hL, b_Script_endLaw_9 hg, n1, ncl (by omega), n2, u2_a (by decide), n1, nadd, b_Script_endLaw_32]
        refine ⟨hv, rfl, ?_⟩
        rw [b_Reader_readClause_118]
        exact fin
      · obtain ⟨c1, c2, c3, c4, c5, c6⟩ := C6
        obtain ⟨⟨d1, d2, d3, d4⟩, d5, d6, d7, d8⟩ := c1
        refine ⟨⟨⟨by rw [u2_a (by decide)]; exact d1, by rw [u2_a (by decide)]; exact d2, by rw [u2_a (by decide)]; exact d3, by rw [u2_a (by decide)]; exact d4⟩, by rw [u2_a (by decide)]; exact d5, fun i hi => by rw [u2_a (by decide)]; exact d6 i hi, by rw [u2_a (by decide)]; exact d7, by rw [u2_k (by decide)]; exact d8⟩, fun i hi => by rw [u2_a (by decide)]; exact c2 i hi, ?_, by rw [u2_a (by decide)]; exact c4, fun i x hx => ?_, fun i x hx => ?_⟩
        · rw [u2_s, List.length_append, List.length_singleton, ← eL]
        · have ee : ∀ a j, a ≠ 24 → u2 (u2 I5 28 L (nI (s.2.2.1 ++ w.2.2.1 ++ z.2.2.1).length)) 24 1 (nI (L + 1)) a j = u2 I5 28 L (nI (s.2.2.1 ++ w.2.2.1 ++ z.2.2.1).length) a j := fun a j ha => u2_a ha
          rw [ee 25 i (by decide), ee 26 i (by decide), ee 27 i (by decide), ee 28 i (by decide)]
          rcases gq hx with ⟨y1, y2⟩ | ⟨y1, y2⟩
          · exact c5 i x y2
          · rw [y2, y1, ← eL]
            exact ⟨by rw [u2_a (by decide)]; exact t25, by rw [u2_a (by decide)]; exact t26, by rw [u2_a (by decide)]; exact t27, u2_s⟩
        · have := c6 i x hx
          rw [u2_a (by decide), u2_a (by decide), u2_a (by decide), u2_a (by decide), u2_a (by decide), u2_a (by decide)]
          exact this
    rw [b_Reader_readClause_86 hg, C4.1.1.1, req (by have := tk_le (n := n) (p := w.1) hB; exact Nat.lt_of_le_of_lt this (by decide)) (by omega)]
    unfold pLt at h0 h1 at111
    have hlw : (s.2.2.1 ++ w.2.2.1).length ≤ w.1 := by omega
    by_cases q5 : tk B n w.1 = 273
    · rw [if_pos q5] at h0 h1 at111
      rw [if_pos (show tk B n (w.1, w.2.1, s.2.2.1 ++ w.2.2.1, s.2.2.2.1 ++ w.2.2.2.1, s.2.2.2.2.1, s.2.2.2.2.2).1 = 273 from q5), b_Reader_readClause_96 hg]
      refine c_radv hg hB hn (by omega) a3 C4.1 ?_
      intro I5 g5 R5
      obtain ⟨F5, k5, k6⟩ := FD_adv g5
      simp only [exV, true_and]
      rw [b_Reader_readClause_100 hg]
      have hg5 : w.1 ≤ le B n w.1 := le_ge
      refine hall.2 e (by omega) (le B n w.1) w.2.1 (s.2.2.1 ++ w.2.2.1).length (s.2.2.2.1 ++ w.2.2.2.1).length I5 J _ R5 (by omega) (le_le a3) a5 ⟨?_, ?_⟩
      · intro q eq I6 F6 f6
        have eq : pEx B n true (le B n w.1) w.2.1 (s.2.2.1 ++ w.2.2.1).length (s.2.2.2.1 ++ w.2.2.2.1).length = .inl q := eq
        rw [eq] at h0
        simp only [exI]
        rw [b_Reader_readClause_106, if_pos rfl, b_Reader_readClause_109]
        exact h0 q rfl I6 (FT_t F4 (FT_t (FD_FT F5) (FD_FT F6))) f6
      · intro z eq I6 F6 f6 R6 s6 c6
        have eq : pEx B n true (le B n w.1) w.2.1 (s.2.2.1 ++ w.2.2.1).length (s.2.2.2.1 ++ w.2.2.2.1).length = .inr z := eq
        simp only [exI]
        rw [b_Reader_readClause_106, if_neg (by decide)]
        have FF : FD I4 I6 := FD_t F5 F6
        refine at111 z I6 eq (FT_t F4 (FD_FT FF)) (f6.trans (k5.trans f4)) (CT_FD C4 FF R6 (fun i hi => by rw [s6 i hi, k6]) c6) ?_ ?_ ?_ _
        · rw [FF.1 25 (by decide) (by decide) (by decide)]; exact x25
        · rw [FF.1 26 (by decide) (by decide) (by decide)]; exact x26
        · rw [FF.1 27 (by decide) (by decide) (by decide)]; exact x27
    · rw [if_neg q5] at at111
      rw [if_neg (show ¬ tk B n (w.1, w.2.1, s.2.2.1 ++ w.2.2.1, s.2.2.2.1 ++ w.2.2.2.1, s.2.2.2.2.1, s.2.2.2.2.2).1 = 273 from q5)]
      refine at111 (w.1, w.2.1, [], [], fun _ => some 1) I4 rfl F4 f4 ?_ x25 x26 x27 _
      show CT B n (w.1, w.2.1, s.2.2.1 ++ w.2.2.1 ++ [], s.2.2.2.1 ++ w.2.2.2.1 ++ [], s.2.2.2.2.1, s.2.2.2.2.2) I4
      rw [List.append_nil, List.append_nil]; exact C4
  rw [b_Reader_readClause_63, req (by omega) (by omega)]
  by_cases q4 : hd = 3
  · have els : pLs B n hd p1 s.2.1 s.2.2.1.length s.2.2.2.1.length = .inr (p1, s.2.1, [], [], fun _ => none) := by unfold pLs; rw [if_pos q4]
    rw [if_pos q4]
    refine at79 _ I2 els F2 f1 ?_ r25 r26 _
    show CT B n (p1, s.2.1, s.2.2.1 ++ [], s.2.2.2.1 ++ [], s.2.2.2.2.1, s.2.2.2.2.2) I2
    rw [List.append_nil, List.append_nil]; exact C2
  · have els : pLs B n hd p1 s.2.1 s.2.2.1.length s.2.2.2.1.length = pEx B n false p1 s.2.1 s.2.2.1.length s.2.2.2.1.length := by unfold pLs; rw [if_neg q4]
    rw [if_neg q4, b_Reader_readClause_68 hg]
    refine hall.1 e (by omega) p1 s.2.1 s.2.2.1.length s.2.2.2.1.length I2 J _ C2.1 (by omega) hle i4 ⟨?_, ?_⟩
    · intro q eq I3 F3 f3
      have eq : pLs B n hd p1 s.2.1 s.2.2.1.length s.2.2.2.1.length = .inl q := els.trans eq
      rw [eq] at h0
      simp only [exI]
      rw [b_Reader_readClause_74, if_pos rfl, b_Reader_readClause_77]
      exact h0 q rfl I3 (FT_t F2 (FD_FT F3)) f3
    · intro w eq I3 F3 f3 R3 s3 c3
      have eq : pLs B n hd p1 s.2.1 s.2.2.1.length s.2.2.2.1.length = .inr w := els.trans eq
      simp only [exI]
      rw [b_Reader_readClause_74, if_neg (by decide)]
      refine at79 w I3 eq (FT_t F2 (FD_FT F3)) (f3.trans f1) (CT_FD (s := (p1, s.2.1, s.2.2.1, s.2.2.2.1, s.2.2.2.2.1, s.2.2.2.2.2)) C2 F3 R3 s3 c3) ?_ ?_ _
      · rw [F3.1 25 (by decide) (by decide) (by decide)]; exact r25
      · rw [F3.1 26 (by decide) (by decide) (by decide)]; exact r26
end CT2
