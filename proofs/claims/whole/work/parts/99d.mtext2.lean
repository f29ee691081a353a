/-! ===== the reference reads a text ===== -/
section MT2
variable {d : Nat} {g : aG} {B : Nat → Nat} {n : Nat} {I : Nat → Nat → Int32} {J : Nat → Nat → Int64} {Q : aQ}
def hdI (t : Nat) : Int32 := if t = 270 then nI 0 else if t = 271 then nI 1 else if t = 272 then nI 2 else -1
theorem c_mClause (hg : Geo g) {k : Nat} {s : aT} (hs : TI n s) (hk : s.2.2.2.2.1.length + s.2.2.2.2.2.length = k) (hk24 : k ≤ 24) (hM : MT B n k s I J) (h24 : k = 24 → ∀ I' J', XTX I I' → XNJ J J' → I' 89 14 = nI 1 → I' 89 13 = nI (ls B n s.1) → Q none (g, I', J')) (h0 : k < 24 → ∀ q, pCla B n s = .inl q → ∀ I' J', XTX I I' → XNJ J J' → I' 89 14 = nI 1 → I' 89 13 = nI q → Q none (g, I', J')) (h1 : k < 24 → ∀ w, pCla B n s = .inr w → ∀ I' J', XTX I I' → XNJ J J' → I' 89 13 = I 89 13 → MT B n (k + 1) w I' J' → Q none (g, I', J')) : a_call aTab aMX (d + 8) m_Mo_readClause [.ref 89] (g, I, J) Q := by
  have hB := hM.1.1.1
  have hn := hM.1.1.2.1
  have Z := hM.1
  have i1 := hs.1
  rw [e_Mo_readClause, b_Mo_readClause_0 hg, wh_beat, c_isWordX hg hB Z.2.1 (by decide)]
  simp only [exI]
  rw [b_Mo_readClause_7 hg, wh_pass, c_isWordX hg hB Z.2.1 (by decide)]
  simp only [exI]
  rw [b_Mo_readClause_15]
  -- with the head known
  have at51 : a_wp aTab aMX (d + 7) m_Mo_readClause 51 [.ref 89, .int (bi (decide (tk B n s.1 = 259 + 1))), aU, aU, aU] [.int (hdI (tk B n s.1))] (g, I, J) Q := by
    rw [b_Mo_readClause_51 hg, Z.2.2.1, if_pos rfl, b_Mo_readClause_59 hg, hM.2.1, req (by omega) (by omega)]
    have bad : ∀ q, q = ls B n s.1 → (∀ I' J', XTX I I' → XNJ J J' → I' 89 14 = nI 1 → I' 89 13 = nI q → Q none (g, I', J')) → ∀ i1 i2 : Int32, a_wp aTab aMX (d + 7) m_Mo_readClause 77 [.ref 89, .int i1, .int i2, aU, aU] [] (g, I, J) Q := by
      intro q eq hq i1' i2'
      rw [b_Mo_readClause_77 hg]
      refine c_mustZ (b := false) hg i1 Z (fun z => by cases z) (fun _ => ?_)
      simp only [exV, true_and]
      rw [b_Mo_readClause_82 hg, u2_k (by decide), u2_s, if_neg (by decide), b_Mo_readClause_89]
      exact hq _ J (XTX_u (XTX_u (XTX_r I) (by omega)) (by omega)) (fun _ _ _ => rfl) (by rw [u2_k (by decide), u2_s]) (by rw [u2_s, eq])
    by_cases q24 : k = 24
    · rw [if_pos q24]
      exact bad _ rfl (h24 q24) _ _
    rw [if_neg q24]
    have hk' : k < 24 := by omega
    have h0 := h0 hk'
    have h1 := h1 hk'
    have M1 : MT B n (k + 1) s (u2 I 89 28 (nI (k + 1))) J := by
      obtain ⟨m1, m2, m3, m4, m5, m6⟩ := hM
      refine ⟨ZE_u m1 (by omega), u2_s, by rw [u2_k (by decide)]; exact m3, by rw [u2_k (by decide)]; exact m4, fun i w hw => ?_, fun i w hw => ?_⟩
      · rw [u2_a (by decide), u2_a (by decide), u2_a (by decide), u2_a (by decide), u2_a (by decide)]; exact m5 i w hw
      · rw [u2_a (by decide), u2_a (by decide), u2_a (by decide), u2_a (by decide), u2_a (by decide), u2_a (by decide), u2_a (by decide)]; exact m6 i w hw
    have X1 : XTX I (u2 I 89 28 (nI (k + 1))) := XTX_u (XTX_r I) (by omega)
    have f1 : u2 I 89 28 (nI (k + 1)) 89 13 = I 89 13 := u2_k (by decide)
    have go82 : ∀ {i1 i2 : Int32}, a_wp aTab aMX (d + 7) m_Mo_readClause 90 [.ref 89, .int i1, .int i2, aU, aU] [] (g, I, J) Q → a_wp aTab aMX (d + 7) m_Mo_readClause 82 [.ref 89, .int i1, .int i2, aU, aU] [] (g, I, J) Q := by
      intro i1' i2' w
      rw [b_Mo_readClause_82 hg, Z.2.2.1, if_pos rfl]
      exact w
    unfold pCla at h0 h1
    by_cases qb : tk B n s.1 = 260
    · rw [if_pos qb] at h0 h1
      have qb' : tk B n s.1 = 259 + 1 := qb
      rw [decide_eq_true qb', b_Mo_readClause_68, if_neg (by decide)]
      refine go82 ?_
      rw [b_Mo_readClause_90 hg, hM.2.1, nadd, if_neg (by decide), b_Mo_readClause_104 hg]
      refine c_readBeat hg i1 (by omega) M1 ?_ ?_
      · intro q eq I' J' y1 y2 y3 y4
        rw [eq] at h0
        simp only [exV, true_and]
        rw [b_Mo_readClause_108]
        exact h0 q rfl I' J' (XTX_t X1 y1) y2 y3 y4
      · intro w eq I' J' y1 y2 y3 y4
        rw [eq] at h1
        simp only [exV, true_and]
        rw [b_Mo_readClause_108]
        exact h1 _ rfl I' J' (XTX_t X1 y1) y2 (y3.trans f1) y4
    rw [if_neg qb] at h0 h1
    have qb' : ¬ tk B n s.1 = 259 + 1 := qb
    rw [decide_eq_false qb', b_Mo_readClause_68, if_pos bi_F, b_Mo_readClause_72]
    by_cases qh : 270 ≤ tk B n s.1 ∧ tk B n s.1 ≤ 272
    rotate_left
    · rw [if_neg qh] at h0
      have eh : hdI (tk B n s.1) = (-1 : Int32) := by unfold hdI; rw [if_neg (by omega), if_neg (by omega), if_neg (by omega)]
      rw [eh, if_pos rfl]
      exact bad _ rfl (h0 _ rfl) _ _
    rw [if_pos qh] at h0 h1
    obtain ⟨hd, ehd⟩ : ∃ hd, hd = tk B n s.1 - 269 := ⟨_, rfl⟩
    rw [← ehd] at h0 h1
    have eh : hdI (tk B n s.1) = nI (hd - 1) := by
      unfold hdI
      have : tk B n s.1 = 270 ∨ tk B n s.1 = 271 ∨ tk B n s.1 = 272 := by omega
      rcases this with w | w | w
      · rw [if_pos w, show hd - 1 = 0 by omega]
      · rw [if_neg (by omega), if_pos w, show hd - 1 = 1 by omega]
      · rw [if_neg (by omega), if_neg (by omega), if_pos w, show hd - 1 = 2 by omega]
    rw [eh, if_neg (nI_m1 (by omega))]
    refine go82 ?_
    rw [b_Mo_readClause_90 hg, hM.2.1, nadd, if_pos bi_F, b_Mo_readClause_109 hg]
    refine c_nextZ hg i1 M1.1 ?_
    intro I2 J2 X2 Y2 Z2
    obtain ⟨L, eL⟩ : ∃ L, L = s.2.2.2.2.2.length := ⟨_, rfl⟩
    have hL : L < 24 := by omega
    have hlt : s.1 < le B n s.1 := (le_gt (n := n) (p := s.1) hB (by omega)).1
    simp only [exV, true_and]
    have c15 : I2 89 15 = nI L := by rw [X2 89 15 (by omega), eL]; exact M1.2.2.1
    have c28 : I2 89 28 = nI (k + 1) := by rw [X2 89 28 (by omega)]; exact M1.2.1
    have c27 : I2 89 27 = nI s.2.2.2.2.1.length := by rw [X2 89 27 (by omega)]; exact M1.2.2.2.1
    have cL : LWm s.2.2.2.2.2 I2 := fun i w hw => by
      rw [X2 95 _ (by omega), X2 95 _ (by omega), X2 95 _ (by omega), X2 95 _ (by omega), X2 95 _ (by omega)]; exact M1.2.2.2.2.1 i w hw
    have cM : MVm s.2.2.2.2.1 I2 := fun i w hw => by
      rw [X2 101 _ (by omega), X2 101 _ (by omega), X2 101 _ (by omega), X2 101 _ (by omega), X2 101 _ (by omega), X2 101 _ (by omega), X2 101 _ (by omega)]; exact M1.2.2.2.2.2 i w hw
    rw [b_Mo_readClause_113 hg, c15, nmul]
    -- clearing
    refine dn (P := fun j => ∀ I3, (∀ a i, ¬ (a = 95 ∧ 8 * L ≤ i) → I3 a i = I2 a i) → a_wp aTab aMX (d + 7) m_Mo_readClause 124 [.ref 89, aU, .int (nI (hd - 1)), .int (nI (8 * L)), .int (nI j)] [] (g, I3, J2) Q) (n := 8) ?_ ?_ 0 (by omega) I2 (fun _ _ _ => rfl)
    · intro I3 hX3
      have Z3 : ZE B n (le B n s.1) s.2.1 s.2.2.2.1 I3 J2 := by
        obtain ⟨z1, z2, z3, z4, z5, z6⟩ := Z2
        refine ⟨TP_x z1 (fun a i h3 h4 => hX3 a i (by omega)) (fun _ _ _ => rfl), ⟨?_, ?_, ?_, z2.2.2.2⟩, ?_, ?_, ?_, ?_⟩
        · rw [hX3 89 9 (by omega)]; exact z2.1
        · rw [hX3 89 10 (by omega)]; exact z2.2.1
        · rw [hX3 89 11 (by omega)]; exact z2.2.2.1
        · rw [hX3 89 14 (by omega)]; exact z3
        · rw [hX3 89 20 (by omega)]; exact z4
        · rw [hX3 89 17 (by omega)]; exact z5
        · rw [show I3 96 = I2 96 from funext (fun j => hX3 96 j (by omega)), show I3 97 = I2 97 from funext (fun j => hX3 97 j (by omega))]; exact z6
      have e15 : I3 89 15 = nI L := by rw [hX3 89 15 (by omega)]; exact c15
      have hv0 : vp_in (nI (8 * L)) 192 := by rw [nvi (show 8 * L < 192 by omega) (by omega)]; trivial
      have hv3 : vp_in (nI (8 * L + 3)) 192 := by rw [nvi (show 8 * L + 3 < 192 by omega) (by omega)]; trivial
      rw [b_Mo_readClause_124, rlf (by omega) (by omega) (by omega), b_Mo_readClause_147 hg, nadd, ncl (by omega), ncl (by omega), u2_a (by decide), e15, nadd, u2_k (by decide), u2_a (by decide), Z3.2.2.2.2.1]
      refine ⟨hv0, hv3, ?_⟩
      obtain ⟨I4, e4⟩ : ∃ I4, I4 = u2 (u2 (u2 I3 95 (8 * L) (nI (hd - 1))) 89 15 (nI (L + 1))) 95 (8 * L + 3) (nI s.2.2.2.1.length) := ⟨_, rfl⟩
      rw [← e4]
      have Z4 : ZE B n (le B n s.1) s.2.1 s.2.2.2.1 I4 J2 := by rw [e4]; exact ZE_u (ZE_u (ZE_u Z3 (by omega)) (by omega)) (by omega)
      have X4 : ∀ a i, ¬ (a = 95 ∧ 8 * L ≤ i) → ¬ (a = 89 ∧ i = 15) → I4 a i = I2 a i := fun a i y1 y2 => by
        rw [e4, show u2 (u2 (u2 I3 95 (8 * L) (nI (hd - 1))) 89 15 (nI (L + 1))) 95 (8 * L + 3) (nI s.2.2.2.1.length) a i = u2 (u2 I3 95 (8 * L) (nI (hd - 1))) 89 15 (nI (L + 1)) a i from if_neg (by omega), show u2 (u2 I3 95 (8 * L) (nI (hd - 1))) 89 15 (nI (L + 1)) a i = u2 I3 95 (8 * L) (nI (hd - 1)) a i from if_neg (by omega), show u2 I3 95 (8 * L) (nI (hd - 1)) a i = I3 a i from if_neg (by omega)]
        exact hX3 a i y1
      have hXX : XTX I I4 := fun a i h3 h4 => by rw [X4 a i (by omega) (by omega), X2 a i (by omega)]; exact X1 a i h3 h4
      have hLB : LB L hd (k + 1) s I4 := by
        refine ⟨?_, ?_, ?_, fun i w hw => ?_, fun i w hw => ?_, ?_, ?_⟩
        · rw [X4 89 28 (by omega) (by omega)]; exact c28
        · rw [e4, u2_a (by decide), u2_s]
        · rw [X4 89 27 (by omega) (by omega)]; exact c27
        · have hi : i < L := by
            apply Classical.byContradiction
            intro z
            rw [List.getElem?_eq_none (by omega)] at hw
            cases hw
          rw [X4 95 _ (by omega) (by omega), X4 95 _ (by omega) (by omega), X4 95 _ (by omega) (by omega), X4 95 _ (by omega) (by omega), X4 95 _ (by omega) (by omega)]
          exact cL i w hw
        · rw [X4 101 _ (by omega) (by omega), X4 101 _ (by omega) (by omega), X4 101 _ (by omega) (by omega), X4 101 _ (by omega) (by omega), X4 101 _ (by omega) (by omega), X4 101 _ (by omega) (by omega), X4 101 _ (by omega) (by omega)]
          exact cM i w hw
        · rw [e4, u2_k (by omega), u2_a (by decide), u2_s]
        · rw [e4, u2_s]
      have f4 : I4 89 13 = I 89 13 := by rw [X4 89 13 (by omega) (by omega), X2 89 13 (by omega)]; exact f1
      exact c_mLaw hg hs (by omega) (le_le i1) (by omega) (by omega) eL.symm hL Z4 hLB (fun q eq I' J' y1 y2 y3 y4 => h0 q eq I' J' (XTX_t hXX y1) (XNJ_t Y2 y2) y3 y4) (fun w eq I' J' y1 y2 y3 y4 => h1 w eq I' J' (XTX_t hXX y1) (XNJ_t Y2 y2) (y3.trans f4) y4) _ _ _
    · intro j hj ih I3 hX3
      rw [b_Mo_readClause_124, rlt2 (by omega) (by omega) hj, b_Mo_readClause_131 hg, nadd, nadd, ncl (by omega)]
      refine ⟨by rw [nvi (show 8 * L + j < 192 by omega) (by omega)]; trivial, ?_⟩
      exact ih _ (fun a i y => by rw [show u2 I3 95 (8 * L + j) (nI 0) a i = I3 a i from if_neg (by omega)]; exact hX3 a i y)
  by_cases q1 : tk B n s.1 = 270
  · have q1' : tk B n s.1 = 259 + 11 := q1
    rw [decide_eq_true q1', if_neg (by decide), b_Mo_readClause_18]
    rw [show hdI (tk B n s.1) = nI 0 from if_pos q1] at at51
    exact at51
  have q1' : ¬ tk B n s.1 = 259 + 11 := q1
  rw [decide_eq_false q1', if_pos bi_F, b_Mo_readClause_22 hg, wh_slip, c_isWordX hg hB Z.2.1 (by decide)]
  simp only [exI]
  rw [b_Mo_readClause_29]
  by_cases q2 : tk B n s.1 = 271
  · have q2' : tk B n s.1 = 259 + 12 := q2
    rw [decide_eq_true q2', if_neg (by decide), b_Mo_readClause_32]
    rw [show hdI (tk B n s.1) = nI 1 by unfold hdI; rw [if_neg q1, if_pos q2]] at at51
    exact at51
  have q2' : ¬ tk B n s.1 = 259 + 12 := q2
  rw [decide_eq_false q2', if_pos bi_F, b_Mo_readClause_36 hg, wh_bars, c_isWordX hg hB Z.2.1 (by decide)]
  simp only [exI]
  rw [b_Mo_readClause_43]
  by_cases q3 : tk B n s.1 = 272
  · have q3' : tk B n s.1 = 259 + 13 := q3
    rw [decide_eq_true q3', if_neg (by decide), b_Mo_readClause_46]
    rw [show hdI (tk B n s.1) = nI 2 by unfold hdI; rw [if_neg q1, if_neg q2, if_pos q3]] at at51
    exact at51
  · have q3' : ¬ tk B n s.1 = 259 + 13 := q3
    rw [decide_eq_false q3', if_pos bi_F, b_Mo_readClause_50]
    rw [show hdI (tk B n s.1) = (-1 : Int32) by unfold hdI; rw [if_neg q1, if_neg q2, if_neg q3]] at at51
    exact at51
theorem mtext (hg : Geo g) {I0 : Nat → Nat → Int32} {J0 : Nat → Nat → Int64} : ∀ fu k s I J, k + fu = 24 → TI n s → s.2.2.2.2.1.length + s.2.2.2.2.2.length = k → MT B n k s I J → XTX I0 I → XNJ J0 J → I 89 13 = I0 89 13 → (∀ q, pTx B n fu k s = .inl q → ∀ I' J', XTX I0 I' → XNJ J0 J' → I' 89 14 = nI 1 → I' 89 13 = nI q → a_wp aTab aMX (d + 8) m_Mo_play 84 [.ref 89, aU, aU] [] (g, I', J') Q) → (∀ w, pTx B n fu k s = .inr w → ∀ I' J', XTX I0 I' → XNJ J0 J' → I' 89 13 = I0 89 13 → MT B n w.1 w.2 I' J' → a_wp aTab aMX (d + 8) m_Mo_play 84 [.ref 89, aU, aU] [] (g, I', J') Q) → a_call aTab aMX (d + 8) m_Mo_readClause [.ref 89] (g, I, J) (fun v h2 => v = none ∧ a_wp aTab aMX (d + 8) m_Mo_play 38 [.ref 89, aU, aU] [] h2 Q) := by
  have bad38 : ∀ {I1 : Nat → Nat → Int32} {J1 : Nat → Nat → Int64}, I1 89 14 = nI 1 → a_wp aTab aMX (d + 8) m_Mo_play 84 [.ref 89, aU, aU] [] (g, I1, J1) Q → a_wp aTab aMX (d + 8) m_Mo_play 38 [.ref 89, aU, aU] [] (g, I1, J1) Q := by
    intro I1 J1 h w
    rw [b_Mo_play_38 hg, h, if_neg (by decide), b_Mo_play_65 hg, h, if_neg (by decide)]
    exact w
  intro fu
  induction fu with
  | zero =>
    intro k s I J hk hs hc hM hX hXJ hf h0 h1
    refine c_mClause hg hs hc (by omega) hM ?_ (fun z => absurd z (by omega)) (fun z => absurd z (by omega))
    intro _ I' J' y1 y2 y3 y4
    exact ⟨rfl, bad38 y3 (h0 _ rfl I' J' (XTX_t hX y1) (XNJ_t hXJ y2) y3 y4)⟩
  | succ fu ih =>
    intro k s I J hk hs hc hM hX hXJ hf h0 h1
    have hB := hM.1.1.1
    unfold pTx at h0 h1
    refine c_mClause hg hs hc (by omega) hM (fun z => absurd z (by omega)) ?_ ?_
    · intro _ q eq I' J' y1 y2 y3 y4
      rw [eq] at h0
      exact ⟨rfl, bad38 y3 (h0 q rfl I' J' (XTX_t hX y1) (XNJ_t hXJ y2) y3 y4)⟩
    · intro _ w eq I1 J1 X1 Y1 f1 M1
      refine ⟨rfl, ?_⟩
      rw [eq] at h0 h1
      have h0 : ∀ q, (if tk B n w.1 = 256 then (.inr (k + 1, w) : Nat ⊕ (Nat × aT)) else if tk B n w.1 = 59 then pTx B n fu (k + 1) (le B n w.1, w.2) else .inl (ls B n w.1)) = .inl q → ∀ I' J', XTX I0 I' → XNJ J0 J' → I' 89 14 = nI 1 → I' 89 13 = nI q → a_wp aTab aMX (d + 8) m_Mo_play 84 [.ref 89, aU, aU] [] (g, I', J') Q := h0
      have h1 : ∀ y, (if tk B n w.1 = 256 then (.inr (k + 1, w) : Nat ⊕ (Nat × aT)) else if tk B n w.1 = 59 then pTx B n fu (k + 1) (le B n w.1, w.2) else .inl (ls B n w.1)) = .inr y → ∀ I' J', XTX I0 I' → XNJ J0 J' → I' 89 13 = I0 89 13 → MT B n y.1 y.2 I' J' → a_wp aTab aMX (d + 8) m_Mo_play 84 [.ref 89, aU, aU] [] (g, I', J') Q := h1
      have hw := cla_P hB hs eq
      have X1' := XTX_t hX X1
      have Y1' := XNJ_t hXJ Y1
      have f1' := f1.trans hf
      have hsr := sr_le B n w.1
      rw [b_Mo_play_38 hg, M1.1.2.2.1, if_pos rfl, b_Mo_play_45 hg, c_isSignX hg hB M1.1.2.1 (by decide) (by decide) (by decide)]
      simp only [exI]
      rw [b_Mo_play_51]
      by_cases q1 : tk B n w.1 = 59
      · rw [if_neg (by omega), if_pos q1] at h0 h1
        rw [decide_eq_true q1, if_neg (by decide), b_Mo_play_54 hg]
        refine c_nextZ hg hw.1.1 M1.1 ?_
        intro I2 J2 X2 Y2 Z2
        simp only [exV, true_and]
        rw [b_Mo_play_58 hg]
        have M2 : MT B n (k + 1) (le B n w.1, w.2) I2 J2 := by
          obtain ⟨m1, m2, m3, m4, m5, m6⟩ := M1
          refine ⟨Z2, by rw [X2 89 28 (by omega)]; exact m2, by rw [X2 89 15 (by omega)]; exact m3, by rw [X2 89 27 (by omega)]; exact m4, fun i x hx => ?_, fun i x hx => ?_⟩
          · rw [X2 95 _ (by omega), X2 95 _ (by omega), X2 95 _ (by omega), X2 95 _ (by omega), X2 95 _ (by omega)]; exact m5 i x hx
          · rw [X2 101 _ (by omega), X2 101 _ (by omega), X2 101 _ (by omega), X2 101 _ (by omega), X2 101 _ (by omega), X2 101 _ (by omega), X2 101 _ (by omega)]; exact m6 i x hx
        obtain ⟨i1, i2, i3, i4, i5, i6⟩ := hw.1
        have hg6 : w.1 ≤ le B n w.1 := le_ge
        have := ih (k + 1) (le B n w.1, w.2) I2 J2 (by omega) ⟨le_le i1, by show w.2.2.1.length ≤ le B n w.1; omega, by show w.2.2.2.1.length ≤ le B n w.1; omega, i4, i5, i6⟩ (by show w.2.2.2.2.1.length + w.2.2.2.2.2.length = k + 1; omega) M2 (XTX_t X1' (XN_X X2)) (XNJ_t Y1' Y2) ((X2 89 13 (by omega)).trans f1') h0 h1
        have e62 : (fun (v : Option Value) (h2 : aH) => v = none ∧ a_wp aTab aMX (d + 8) m_Mo_play 62 [.ref 89, aU, aU] [] h2 Q) = (fun v h2 => v = none ∧ a_wp aTab aMX (d + 8) m_Mo_play 38 [.ref 89, aU, aU] [] h2 Q) := by
          funext v h2
          obtain ⟨g', I', J'⟩ := h2
          rw [b_Mo_play_62]
        rw [e62]
        exact this
      · rw [decide_eq_false q1, if_pos bi_F, b_Mo_play_65 hg, M1.1.2.2.1, if_pos rfl, b_Mo_play_72 hg, M1.1.2.1.2.2.1, req (by omega) (by omega)]
        have hend := tk_end (n := n) (p := w.1) hB
        by_cases q2 : sr B n w.1 = 0
        · rw [if_pos (hend.1 q2)] at h1
          rw [if_pos q2]
          exact h1 _ rfl I1 J1 X1' Y1' f1' M1
        · rw [if_neg (fun z => q2 (hend.2 z)), if_neg q1] at h0
          rw [if_neg q2, b_Mo_play_79 hg]
          refine c_mustZ (b := false) hg hw.1.1 M1.1 (fun z => by cases z) (fun _ => ?_)
          simp only [exV, true_and]
          exact h0 _ rfl _ J1 (XTX_u (XTX_u X1' (by omega)) (by omega)) Y1' (by rw [u2_k (by decide), u2_s]) u2_s
end MT2
