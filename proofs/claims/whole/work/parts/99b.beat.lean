/-! ===== the reference reads a move ===== -/
theorem wh_to : lN 655 = lN (wh 8) := by decide +kernel
theorem wh_at : lN 52 = lN (wh 9) := by decide +kernel
theorem wh_off : lN 15558 = lN (wh 10) := by decide +kernel
theorem wh_deep : lN 136368 = lN (wh 6) := by decide +kernel
section BEA
variable {d : Nat} {g : aG} {B : Nat → Nat} {n : Nat} {I : Nat → Nat → Int32} {J : Nat → Nat → Int64} {Q : aQ}
theorem c_readBeat (hg : Geo g) {k : Nat} {s : aT} (hs : s.1 ≤ n) (hk : s.2.2.2.2.1.length < 24) (hM : MT B n k s I J) (h0 : ∀ q, pMove B n s.1 = .inl q → ∀ I' J', XTX I I' → XNJ J J' → I' 89 14 = nI 1 → I' 89 13 = nI q → Q none (g, I', J')) (h1 : ∀ w, pMove B n s.1 = .inr w → ∀ I' J', XTX I I' → XNJ J J' → I' 89 13 = I 89 13 → MT B n k (w.1, s.2.1, s.2.2.1, s.2.2.2.1, s.2.2.2.2.1 ++ [w.2], s.2.2.2.2.2) I' J' → Q none (g, I', J')) : a_call aTab aMX (d + 5) m_Mo_readBeat [.ref 89] (g, I, J) Q := by
  have hB := hM.1.1.1
  have hn := hM.1.1.2.1
  obtain ⟨m, em⟩ : ∃ m, m = s.2.2.2.2.1.length := ⟨_, rfl⟩
  rw [← em] at hk
  obtain ⟨p, ep⟩ : ∃ p, p = s.1 := ⟨_, rfl⟩
  have Z0 : ZE B n p s.2.1 s.2.2.2.1 I J := by rw [ep]; exact hM.1
  rw [← ep] at hs h0 h1
  generalize s.2.1 = lv at *
  -- bad to the end
  have b156 : ∀ {I1 : Nat → Nat → Int32} {J1 : Nat → Nat → Int64}, I1 89 14 = nI 1 → Q none (g, I1, J1) → ∀ i1 i2 i3 i4 i5 i6 i7 : Int32, a_wp aTab aMX (d + 4) m_Mo_readBeat 156 [.ref 89, .int i1, .int i2, .int i3, .int i4, .int i5, .int i6, .int i7, aU] [] (g, I1, J1) Q := by
    intro I1 J1 h hq i1 i2 i3 i4 i5 i6 i7
    rw [b_Mo_readBeat_156 hg, h, if_neg (by decide), b_Mo_readBeat_263]
    exact hq
  have b146 : ∀ {I1 : Nat → Nat → Int32} {J1 : Nat → Nat → Int64}, I1 89 14 = nI 1 → Q none (g, I1, J1) → ∀ i1 i2 i3 i4 i5 i7 : Int32, a_wp aTab aMX (d + 4) m_Mo_readBeat 146 [.ref 89, .int i1, .int i2, .int i3, .int i4, .int i5, aU, .int i7, aU] [] (g, I1, J1) Q := by
    intro I1 J1 h hq i1 i2 i3 i4 i5 i7
    rw [b_Mo_readBeat_146 hg]
    refine c_numB hg h (fun v => ⟨_, rfl, ?_⟩)
    rw [b_Mo_readBeat_154]
    exact b156 h hq _ _ _ _ _ _ _
  have b133 : ∀ {I1 : Nat → Nat → Int32} {J1 : Nat → Nat → Int64}, I1 89 14 = nI 1 → Q none (g, I1, J1) → ∀ i1 i2 i3 i4 i7 v : Int32, a_wp aTab aMX (d + 4) m_Mo_readBeat 133 [.ref 89, .int i1, .int i2, .int i3, .int i4, aU, aU, .int i7, aU] [.int v] (g, I1, J1) Q := by
    intro I1 J1 h hq i1 i2 i3 i4 i7 v
    rw [b_Mo_readBeat_133 hg]
    refine c_isWordG hg (fun v => ⟨_, rfl, ?_⟩)
    rw [b_Mo_readBeat_143 hg, c_mustB hg h]
    exact ⟨rfl, b146 h hq _ _ _ _ _ _⟩
  have b125 : ∀ {I1 : Nat → Nat → Int32} {J1 : Nat → Nat → Int64}, I1 89 14 = nI 1 → Q none (g, I1, J1) → ∀ i1 i2 i3 i4 i7 : Int32, a_wp aTab aMX (d + 4) m_Mo_readBeat 125 [.ref 89, .int i1, .int i2, .int i3, .int i4, aU, aU, .int i7, aU] [] (g, I1, J1) Q := by
    intro I1 J1 h hq i1 i2 i3 i4 i7
    rw [b_Mo_readBeat_125 hg]
    exact c_numB hg h (fun v => ⟨_, rfl, b133 h hq _ _ _ _ _ _⟩)
  have b113 : ∀ {I1 : Nat → Nat → Int32} {J1 : Nat → Nat → Int64}, I1 89 14 = nI 1 → Q none (g, I1, J1) → ∀ i1 i2 i3 i7 v : Int32, a_wp aTab aMX (d + 4) m_Mo_readBeat 113 [.ref 89, .int i1, .int i2, .int i3, aU, aU, aU, .int i7, aU] [.int v] (g, I1, J1) Q := by
    intro I1 J1 h hq i1 i2 i3 i7 v
    rw [b_Mo_readBeat_113 hg]
    refine c_isSignG hg (fun v => ⟨_, rfl, ?_⟩)
    rw [b_Mo_readBeat_122 hg, c_mustB hg h]
    exact ⟨rfl, b125 h hq _ _ _ _ _⟩
  have b105 : ∀ {I1 : Nat → Nat → Int32} {J1 : Nat → Nat → Int64}, I1 89 14 = nI 1 → Q none (g, I1, J1) → ∀ i1 i2 i3 i7 : Int32, a_wp aTab aMX (d + 4) m_Mo_readBeat 105 [.ref 89, .int i1, .int i2, .int i3, aU, aU, aU, .int i7, aU] [] (g, I1, J1) Q := by
    intro I1 J1 h hq i1 i2 i3 i7
    rw [b_Mo_readBeat_105 hg]
    exact c_numB hg h (fun v => ⟨_, rfl, b113 h hq _ _ _ _ _⟩)
  have b54 : ∀ {I1 : Nat → Nat → Int32} {J1 : Nat → Nat → Int64}, I1 89 14 = nI 1 → Q none (g, I1, J1) → ∀ i1 i2 v : Int32, a_wp aTab aMX (d + 4) m_Mo_readBeat 54 [.ref 89, .int i1, .int i2, aU, aU, aU, aU, aU, aU] [.int v] (g, I1, J1) Q := by
    intro I1 J1 h hq i1 i2 v
    rw [b_Mo_readBeat_54 hg, h, if_neg (by decide), b_Mo_readBeat_91 hg]
    refine c_isWordG hg (fun v => ⟨_, rfl, ?_⟩)
    rw [b_Mo_readBeat_102 hg, c_mustB hg h]
    exact ⟨rfl, b105 h hq _ _ _ _⟩
  have b46 : ∀ {I1 : Nat → Nat → Int32} {J1 : Nat → Nat → Int64}, I1 89 14 = nI 1 → Q none (g, I1, J1) → ∀ i1 i2 : Int32, a_wp aTab aMX (d + 4) m_Mo_readBeat 46 [.ref 89, .int i1, .int i2, aU, aU, aU, aU, aU, aU] [] (g, I1, J1) Q := by
    intro I1 J1 h hq i1 i2
    rw [b_Mo_readBeat_46 hg]
    exact c_numB hg h (fun v => ⟨_, rfl, b54 h hq _ _ _⟩)
  -- a bad state
  have bst : ∀ {I1 : Nat → Nat → Int32} {J1 : Nat → Nat → Int64} {q : Nat}, XN I I1 → XNJ J J1 → pMove B n p = .inl q → u2 (u2 I1 89 14 (nI 1)) 89 13 (nI q) 89 14 = nI 1 ∧ Q none (g, u2 (u2 I1 89 14 (nI 1)) 89 13 (nI q), J1) := by
    intro I1 J1 q hX hXJ eq
    have e14 : u2 (u2 I1 89 14 (nI 1)) 89 13 (nI q) 89 14 = nI 1 := by rw [u2_k (by decide), u2_s]
    exact ⟨e14, h0 q eq _ J1 (XTX_u (XTX_u (XN_X hX) (by omega)) (by omega)) hXJ e14 u2_s⟩
  -- the end of a good one
  have fin : ∀ (a b f x y dp pe : Nat) (on : Bool) I1 J1, pMove B n p = .inr (pe, (a, b, f, x, y, dp)) → XN I I1 → XNJ J J1 → ZE B n pe lv s.2.2.2.1 I1 J1 → (on = true ↔ 0 < dp) → a_wp aTab aMX (d + 4) m_Mo_readBeat 156 [.ref 89, .int (nI a), .int (nI b), .int (nI f), .int (nI x), .int (nI y), .int (nI dp), .int (bi on), aU] [] (g, I1, J1) Q := by
    intro a b f x y dp pe on I1 J1 eq hX hXJ hZ hon
    have c27 : I1 89 27 = nI m := by rw [hX 89 27 (by omega), em]; exact hM.2.2.2.1
    have hv : ∀ j, j < 7 → vp_in (nI (7 * m + j)) 168 := fun j hj => by rw [nvi (show 7 * m + j < 168 by omega) (by omega)]; trivial
    have hv0 : vp_in (nI (7 * m)) 168 := hv 0 (by decide)
    obtain ⟨X, eX⟩ : ∃ X, X = u2 (u2 (u2 (u2 (u2 (u2 (u2 I1 101 (7 * m) (nI a)) 101 (7 * m + 1) (nI b)) 101 (7 * m + 2) (nI f)) 101 (7 * m + 3) (bi on)) 101 (7 * m + 4) (nI x)) 101 (7 * m + 5) (nI y)) 101 (7 * m + 6) (nI dp) := ⟨_, rfl⟩
    have last : a_wp aTab aMX (d + 4) m_Mo_readBeat 263 [.ref 89, aU, aU, aU, .int (nI x), .int (nI y), .int (nI dp), aU, .int (nI (7 * m))] [] (g, u2 X 89 27 (nI (m + 1)), J1) Q := by
      rw [b_Mo_readBeat_263]
      have x0 : ∀ a k, a ≠ 101 → X a k = I1 a k := fun a k ha => by rw [eX, u2_a ha, u2_a ha, u2_a ha, u2_a ha, u2_a ha, u2_a ha, u2_a ha]
      have xl : ∀ j, j < 7 * m → X 101 j = I1 101 j := fun j hj => by rw [eX, u2_k (by omega), u2_k (by omega), u2_k (by omega), u2_k (by omega), u2_k (by omega), u2_k (by omega), u2_k (by omega)]
      have XX : ∀ a k, a ≠ 101 → ¬ (a = 89 ∧ k = 27) → u2 X 89 27 (nI (m + 1)) a k = I1 a k := fun a k h1 h2 => by
        rw [show u2 X 89 27 (nI (m + 1)) a k = X a k from if_neg h2]; exact x0 a k h1
      have hXT : XTX I (u2 X 89 27 (nI (m + 1))) := fun a k h3 h4 => by
        rw [XX a k (by omega) (by omega)]; exact hX a k (by omega)
      refine h1 _ eq _ J1 hXT hXJ ?_ ⟨?_, ?_, ?_, ?_, fun i w hw => ?_, fun i w hw => ?_⟩
      · rw [XX 89 13 (by decide) (by omega), hX 89 13 (by omega)]
      · obtain ⟨z1, z2, z3, z4, z5, z6⟩ := hZ
        have hX2 : XTX I1 (u2 X 89 27 (nI (m + 1))) := fun a k h3 h4 => XX a k (by omega) (by omega)
        refine ⟨TP_x z1 hX2 (fun _ _ _ => rfl), ⟨?_, ?_, ?_, z2.2.2.2⟩, ?_, ?_, ?_, ?_⟩
        · rw [XX 89 9 (by decide) (by omega)]; exact z2.1
        · rw [XX 89 10 (by decide) (by omega)]; exact z2.2.1
        · rw [XX 89 11 (by decide) (by omega)]; exact z2.2.2.1
        · rw [XX 89 14 (by decide) (by omega)]; exact z3
        · rw [XX 89 20 (by decide) (by omega)]; exact z4
        · rw [XX 89 17 (by decide) (by omega)]; exact z5
        · rw [show u2 X 89 27 (nI (m + 1)) 96 = I1 96 from funext (fun j => XX 96 j (by decide) (by omega)), show u2 X 89 27 (nI (m + 1)) 97 = I1 97 from funext (fun j => XX 97 j (by decide) (by omega))]; exact z6
      · rw [XX 89 28 (by decide) (by omega), hX 89 28 (by omega)]; exact hM.2.1
      · rw [XX 89 15 (by decide) (by omega), hX 89 15 (by omega)]; exact hM.2.2.1
      · rw [u2_s, List.length_append, List.length_singleton, ← em]
      · rw [XX 95 _ (by decide) (by omega), XX 95 _ (by decide) (by omega), XX 95 _ (by decide) (by omega), XX 95 _ (by decide) (by omega), XX 95 _ (by decide) (by omega), hX 95 _ (by omega), hX 95 _ (by omega), hX 95 _ (by omega), hX 95 _ (by omega), hX 95 _ (by omega)]
        exact hM.2.2.2.2.1 i w hw
      · have e101 : ∀ j, u2 X 89 27 (nI (m + 1)) 101 j = X 101 j := fun j => u2_a (by decide)
        rw [e101, e101, e101, e101, e101, e101, e101]
        rcases gq hw with ⟨q1, q2⟩ | ⟨q1, q2⟩
        · rw [← em] at q1
          rw [xl _ (by omega), xl _ (by omega), xl _ (by omega), xl _ (by omega), xl _ (by omega), xl _ (by omega), xl _ (by omega), hX 101 _ (by omega), hX 101 _ (by omega), hX 101 _ (by omega), hX 101 _ (by omega), hX 101 _ (by omega), hX 101 _ (by omega), hX 101 _ (by omega)]
          exact hM.2.2.2.2.2 i w q2
        · rw [← em] at q1
          rw [q2, q1, eX]
          have eon : bi on = nI (if 0 < dp then 1 else 0) := by
            cases on
            · rw [if_neg (fun z => by cases hon.2 z)]; rfl
            · rw [if_pos (hon.1 rfl)]; rfl
          refine ⟨?_, ?_, ?_, ?_, ?_, ?_, ?_⟩
          · rw [u2_k (by omega), u2_k (by omega), u2_k (by omega), u2_k (by omega), u2_k (by omega), u2_k (by omega), u2_s]
          · rw [u2_k (by omega), u2_k (by omega), u2_k (by omega), u2_k (by omega), u2_k (by omega), u2_s]
          · rw [u2_k (by omega), u2_k (by omega), u2_k (by omega), u2_k (by omega), u2_s]
          · rw [u2_k (by omega), u2_k (by omega), u2_k (by omega), u2_s]; exact eon
          · rw [u2_k (by omega), u2_k (by omega), u2_s]
          · rw [u2_k (by omega), u2_s]
          · rw [u2_s]
    rw [b_Mo_readBeat_156 hg, hZ.2.2.1, if_pos rfl, b_Mo_readBeat_163 hg, c27, nmul]
    simp (disch := omega) only [ncl, nadd]
    refine ⟨hv0, hv 1 (by decide), hv 2 (by decide), ?_⟩
    have rest : ∀ on2 : Int32, on2 = bi on → a_wp aTab aMX (d + 4) m_Mo_readBeat 218 [.ref 89, aU, aU, aU, .int (nI x), .int (nI y), .int (nI dp), aU, .int (nI (7 * m))] [.int on2, .int (nI (7 * m + 3)), .ref 101] (g, u2 (u2 (u2 I1 101 (7 * m) (nI a)) 101 (7 * m + 1) (nI b)) 101 (7 * m + 2) (nI f), J1) Q := by
      intro on2 e2
      rw [b_Mo_readBeat_218 hg, e2]
      simp (disch := omega) only [ncl, nadd]
      refine ⟨hv 3 (by decide), hv 4 (by decide), hv 5 (by decide), hv 6 (by decide), ?_⟩
      rw [← eX, show X 89 27 = nI m by rw [eX, u2_a (by decide), u2_a (by decide), u2_a (by decide), u2_a (by decide), u2_a (by decide), u2_a (by decide), u2_a (by decide)]; exact c27, nadd]
      exact last
    cases on
    · rw [if_pos bi_F, b_Mo_readBeat_217]
      exact rest _ rfl
    · rw [if_neg (by decide), b_Mo_readBeat_213]
      exact rest _ rfl
  have hle := le_le (B := B) hs
  rw [e_Mo_readBeat, b_Mo_readBeat_0 hg]
  refine c_nextZ hg hs Z0 ?_
  intro I1 J1 X1 Y1 Z1
  simp only [exV, true_and]
  rw [b_Mo_readBeat_4 hg]
  refine c_numZ hg hle Z1 (by decide) (by decide) ?_ ?_
  rotate_left
  · intro q eq v
    have eqm : pMove B n p = .inl q := by unfold pMove; rw [eq]; rfl
    obtain ⟨e14, hq⟩ := bst X1 Y1 eqm
    simp only [exI]
    rw [b_Mo_readBeat_12 hg, e14, if_neg (by decide)]
    exact b46 e14 hq _ _
  intro a ea I2 J2 X2 Y2 Z2
  have na := num_le hle ea
  have X2' := XN_t X1 X2
  have Y2' := XNJ_t Y1 Y2
  simp only [exI]
  rw [b_Mo_readBeat_12 hg, Z2.2.2.1, if_pos rfl, b_Mo_readBeat_22 hg, wh_to, c_isWordX hg hB Z2.2.1 (by decide)]
  simp only [exI]
  rw [b_Mo_readBeat_29]
  -- from the figure's number on
  have at46 : ∀ b p3 I3 J3, p3 ≤ n → XN I I3 → XNJ J J3 → ZE B n p3 lv s.2.2.2.1 I3 J3 → pMove B n p = pMv1 B n a.2 b p3 → a_wp aTab aMX (d + 4) m_Mo_readBeat 46 [.ref 89, .int (nI a.2), .int (nI b), aU, aU, aU, aU, aU, aU] [] (g, I3, J3) Q := by
    intro b p3 I3 J3 hp3 X3 Y3 Z3 em1
    unfold pMv1 at em1
    rw [b_Mo_readBeat_46 hg]
    refine c_numZ hg hp3 Z3 (by decide) (by decide) ?_ ?_
    rotate_left
    · intro q eq v
      have eqm : pMove B n p = .inl q := by rw [em1, eq]; rfl
      obtain ⟨e14, hq⟩ := bst X3 Y3 eqm
      exact ⟨_, rfl, b54 e14 hq _ _ _⟩
    intro f ef I4 J4 X4 Y4 Z4
    have nf := num_le hp3 ef
    rw [ef] at em1
    have em1 : pMove B n p = pMv2 B n a.2 b f.2 f.1 := em1
    unfold pMv2 at em1
    have X4' := XN_t X3 X4
    have Y4' := XNJ_t Y3 Y4
    simp only [exI]
    rw [b_Mo_readBeat_54 hg, Z4.2.2.1, if_pos rfl, b_Mo_readBeat_74 hg, wh_off, c_isWordX hg hB Z4.2.1 (by decide)]
    simp only [exI]
    rw [b_Mo_readBeat_81]
    by_cases q7 : tk B n f.1 = 269
    · rw [if_pos q7] at em1
      rw [decide_eq_true q7, if_neg (by decide), b_Mo_readBeat_84 hg]
      refine c_nextZ hg nf.1 Z4 ?_
      intro I5 J5 X5 Y5 Z5
      simp only [exV, true_and]
      rw [b_Mo_readBeat_88]
      exact fin a.2 b f.2 0 0 0 (le B n f.1) false I5 J5 em1 (XN_t X4' X5) (XNJ_t Y4' Y5) Z5 ⟨fun z => (by cases z), fun z => absurd z (by decide)⟩
    rw [if_neg q7] at em1
    rw [decide_eq_false q7, if_pos bi_F, b_Mo_readBeat_91 hg, wh_at, c_isWordX hg hB Z4.2.1 (by decide)]
    simp only [exI]
    rw [b_Mo_readBeat_102 hg]
    refine c_mustZ hg nf.1 Z4 ?_ ?_
    rotate_left
    · intro hb
      have hb := of_decide_eq_false hb
      have eqm : pMove B n p = .inl (ls B n f.1) := by rw [em1]; unfold pTok; rw [if_neg hb]; rfl
      obtain ⟨e14, hq⟩ := bst X4' Y4' eqm
      exact ⟨rfl, b105 e14 hq _ _ _ _⟩
    intro hb I5 J5 X5 Y5 Z5
    have hb := of_decide_eq_true hb
    rw [show pTok B n 268 f.1 = .inr (le B n f.1) by unfold pTok; rw [if_pos hb]] at em1
    have em1 : pMove B n p = thx (pNum B n 0 31 (le B n f.1)) (fun u => thx (pTok B n 44 u.1) (fun p7 => thx (pNum B n 0 15 p7) (fun v => thx (pTok B n 265 v.1) (fun p9 => thx (pNum B n 1 32 p9) (fun w => .inr (w.1, (a.2, b, f.2, u.2, v.2, w.2))))))) := em1
    have X5' := XN_t X4' X5
    have Y5' := XNJ_t Y4' Y5
    have hl5 := le_le (B := B) nf.1
    simp only [exV, true_and]
    rw [b_Mo_readBeat_105 hg]
    refine c_numZ hg hl5 Z5 (by decide) (by decide) ?_ ?_
    rotate_left
    · intro q eq v
      have eqm : pMove B n p = .inl q := by rw [em1, eq]; rfl
      obtain ⟨e14, hq⟩ := bst X5' Y5' eqm
      exact ⟨_, rfl, b113 e14 hq _ _ _ _ _⟩
    intro x ex I6 J6 X6 Y6 Z6
    have nx := num_le hl5 ex
    rw [ex] at em1
    have em1 : pMove B n p = thx (pTok B n 44 x.1) (fun p7 => thx (pNum B n 0 15 p7) (fun v => thx (pTok B n 265 v.1) (fun p9 => thx (pNum B n 1 32 p9) (fun w => .inr (w.1, (a.2, b, f.2, x.2, v.2, w.2)))))) := em1
    have X6' := XN_t X5' X6
    have Y6' := XNJ_t Y5' Y6
    simp only [exI]
    rw [b_Mo_readBeat_113 hg, c_isSignX hg hB Z6.2.1 (by decide) (by decide) (by decide)]
    simp only [exI]
    rw [b_Mo_readBeat_122 hg]
    refine c_mustZ hg nx.1 Z6 ?_ ?_
    rotate_left
    · intro hb
      have hb := of_decide_eq_false hb
      have eqm : pMove B n p = .inl (ls B n x.1) := by rw [em1]; unfold pTok; rw [if_neg hb]; rfl
      obtain ⟨e14, hq⟩ := bst X6' Y6' eqm
      exact ⟨rfl, b125 e14 hq _ _ _ _ _⟩
    intro hb2 I7 J7 X7 Y7 Z7
    have hb2 := of_decide_eq_true hb2
    rw [show pTok B n 44 x.1 = .inr (le B n x.1) by unfold pTok; rw [if_pos hb2]] at em1
    have em1 : pMove B n p = thx (pNum B n 0 15 (le B n x.1)) (fun v => thx (pTok B n 265 v.1) (fun p9 => thx (pNum B n 1 32 p9) (fun w => .inr (w.1, (a.2, b, f.2, x.2, v.2, w.2))))) := em1
    have X7' := XN_t X6' X7
    have Y7' := XNJ_t Y6' Y7
    have hl7 := le_le (B := B) nx.1
    simp only [exV, true_and]
    rw [b_Mo_readBeat_125 hg]
    refine c_numZ hg hl7 Z7 (by decide) (by decide) ?_ ?_
    rotate_left
    · intro q eq v
      have eqm : pMove B n p = .inl q := by rw [em1, eq]; rfl
      obtain ⟨e14, hq⟩ := bst X7' Y7' eqm
      exact ⟨_, rfl, b133 e14 hq _ _ _ _ _ _⟩
    intro y ey I8 J8 X8 Y8 Z8
    have ny := num_le hl7 ey
    rw [ey] at em1
    have em1 : pMove B n p = thx (pTok B n 265 y.1) (fun p9 => thx (pNum B n 1 32 p9) (fun w => .inr (w.1, (a.2, b, f.2, x.2, y.2, w.2)))) := em1
    have X8' := XN_t X7' X8
    have Y8' := XNJ_t Y7' Y8
    simp only [exI]
    rw [b_Mo_readBeat_133 hg, wh_deep, c_isWordX hg hB Z8.2.1 (by decide)]
    simp only [exI]
    rw [b_Mo_readBeat_143 hg]
    refine c_mustZ hg ny.1 Z8 ?_ ?_
    rotate_left
    · intro hb
      have hb := of_decide_eq_false hb
      have eqm : pMove B n p = .inl (ls B n y.1) := by rw [em1]; unfold pTok; rw [if_neg hb]; rfl
      obtain ⟨e14, hq⟩ := bst X8' Y8' eqm
      exact ⟨rfl, b146 e14 hq _ _ _ _ _ _⟩
    intro hb3 I9 J9 X9 Y9 Z9
    have hb3 := of_decide_eq_true hb3
    rw [show pTok B n 265 y.1 = .inr (le B n y.1) by unfold pTok; rw [if_pos hb3]] at em1
    have em1 : pMove B n p = thx (pNum B n 1 32 (le B n y.1)) (fun w => .inr (w.1, (a.2, b, f.2, x.2, y.2, w.2))) := em1
    have X9' := XN_t X8' X9
    have Y9' := XNJ_t Y8' Y9
    have hl9 := le_le (B := B) ny.1
    simp only [exV, true_and]
    rw [b_Mo_readBeat_146 hg]
    refine c_numZ hg hl9 Z9 (by decide) (by decide) ?_ ?_
    rotate_left
    · intro q eq v
      have eqm : pMove B n p = .inl q := by rw [em1, eq]; rfl
      obtain ⟨e14, hq⟩ := bst X9' Y9' eqm
      refine ⟨_, rfl, ?_⟩
      rw [b_Mo_readBeat_154]
      exact b156 e14 hq _ _ _ _ _ _ _
    intro z ez IA JA XA YA ZA
    have nz := num_le hl9 ez
    rw [ez] at em1
    simp only [exI]
    rw [b_Mo_readBeat_154]
    exact fin a.2 b f.2 x.2 y.2 z.2 z.1 true IA JA em1 (XN_t X9' XA) (XNJ_t Y9' YA) ZA ⟨fun _ => by omega, fun _ => rfl⟩
  have em0 : pMove B n p = if tk B n a.1 = 267 then thx (pNum B n a.2 11 (le B n a.1)) (fun v => pMv1 B n a.2 v.2 v.1) else pMv1 B n a.2 a.2 a.1 := by
    unfold pMove
    rw [ea]
    rfl
  by_cases q6 : tk B n a.1 = 267
  · rw [if_pos q6] at em0
    rw [decide_eq_true q6, if_neg (by decide), b_Mo_readBeat_32 hg]
    refine c_nextZ hg na.1 Z2 ?_
    intro I3 J3 X3 Y3 Z3
    have X3' := XN_t X2' X3
    have Y3' := XNJ_t Y2' Y3
    have hl3 := le_le (B := B) na.1
    have := na.2.2.2
    simp only [exV, true_and]
    rw [b_Mo_readBeat_36 hg, nL (by omega)]
    refine c_numZ hg hl3 Z3 (by omega) (by decide) ?_ ?_
    rotate_left
    · intro q eq v
      have eqm : pMove B n p = .inl q := by rw [em0, eq]; rfl
      obtain ⟨e14, hq⟩ := bst X3' Y3' eqm
      refine ⟨_, rfl, ?_⟩
      rw [b_Mo_readBeat_45]
      exact b46 e14 hq _ _
    intro b eb I4 J4 X4 Y4 Z4
    have nb := num_le hl3 eb
    rw [eb] at em0
    simp only [exI]
    rw [b_Mo_readBeat_45]
    exact at46 b.2 b.1 I4 J4 nb.1 (XN_t X3' X4) (XNJ_t Y3' Y4) Z4 em0
  · rw [if_neg q6] at em0
    rw [decide_eq_false q6, if_pos bi_F]
    exact at46 a.2 a.1 I2 J2 na.1 X2' Y2' Z2 em0
end BEA
