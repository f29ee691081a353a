/-! ===== the reference reads a clause ===== -/
theorem wh_beat : lN 70708 = lN (wh 1) := by decide +kernel
theorem wh_pass : lN 525939 = lN (wh 11) := by decide +kernel
theorem wh_slip : lN 635184 = lN (wh 12) := by decide +kernel
theorem wh_bars : lN 67155 = lN (wh 13) := by decide +kernel
theorem wh_if : lN 294 = lN (wh 14) := by decide +kernel
section MCL
variable {d : Nat} {g : aG} {B : Nat → Nat} {n : Nat} {I : Nat → Nat → Int32} {J : Nat → Nat → Int64} {Q : aQ}
theorem ZE_E {p lv p' lv' : Nat} {c c' : List (Nat × Nat)} {I' : Nat → Nat → Int32} {J' : Nat → Nat → Int64} (h : ZE B n p lv c I J) (hR : RE B n I J p' lv' c' I' J') : ZE B n p' lv' c' I' J' ∧ XE I I' ∧ XNJ J J' ∧ I' 89 13 = I 89 13 := by
  obtain ⟨r1, r2, r3, r4, r5, r6, r7, r8⟩ := hR
  exact ⟨⟨TP_x h.1 (XE_X r2) r3, r1, r4, r6, r7, r8⟩, r2, r3, r5⟩
theorem ZE_R {p lv : Nat} {c : List (Nat × Nat)} (h : ZE B n p lv c I J) : RE B n I J p lv c I J := ⟨h.2.1, XE_r I, fun _ _ _ => rfl, h.2.2.1, rfl, h.2.2.2.1, h.2.2.2.2.1, h.2.2.2.2.2⟩
theorem ZE_u {p lv a k : Nat} {v : Int32} {c : List (Nat × Nat)} (h : ZE B n p lv c I J) (ha : a = 95 ∨ (a = 89 ∧ (k = 15 ∨ k = 27 ∨ k = 28))) : ZE B n p lv c (u2 I a k v) J := by
  obtain ⟨z1, z2, z3, z4, z5, z6⟩ := h
  have e : ∀ j, j ≠ 15 → j ≠ 27 → j ≠ 28 → u2 I a k v 89 j = I 89 j := fun j h1 h2 h3 => if_neg (by omega)
  refine ⟨TP_x z1 (XTX_u (XTX_r I) (by omega)) (fun _ _ _ => rfl), ⟨?_, ?_, ?_, z2.2.2.2⟩, ?_, ?_, ?_, ?_⟩
  · rw [e 9 (by decide) (by decide) (by decide)]; exact z2.1
  · rw [e 10 (by decide) (by decide) (by decide)]; exact z2.2.1
  · rw [e 11 (by decide) (by decide) (by decide)]; exact z2.2.2.1
  · rw [e 14 (by decide) (by decide) (by decide)]; exact z3
  · rw [e 20 (by decide) (by decide) (by decide)]; exact z4
  · rw [e 17 (by decide) (by decide) (by decide)]; exact z5
  · rw [u2_r (by omega), u2_r (by omega)]; exact z6
/-- within a law -/
def LB (L h k : Nat) (s : aT) (I : Nat → Nat → Int32) : Prop := I 89 28 = nI k ∧ I 89 15 = nI (L + 1) ∧ I 89 27 = nI s.2.2.2.2.1.length ∧ LWm s.2.2.2.2.2 I ∧ MVm s.2.2.2.2.1 I ∧ I 95 (8 * L) = nI (h - 1) ∧ I 95 (8 * L + 3) = nI s.2.2.2.1.length
theorem LB_x {L h k : Nat} {s : aT} {I' : Nat → Nat → Int32} (hX : ∀ a j, (a = 95 ∨ a = 101 ∨ (a = 89 ∧ (j = 15 ∨ j = 27 ∨ j = 28))) → I' a j = I a j) (hL : LB L h k s I) : LB L h k s I' := by
  obtain ⟨l1, l2, l3, l4, l5, l6, l7⟩ := hL
  refine ⟨?_, ?_, ?_, fun i w hw => ?_, fun i w hw => ?_, ?_, ?_⟩
  · rw [hX 89 28 (by omega)]; exact l1
  · rw [hX 89 15 (by omega)]; exact l2
  · rw [hX 89 27 (by omega)]; exact l3
  · rw [hX 95 _ (by omega), hX 95 _ (by omega), hX 95 _ (by omega), hX 95 _ (by omega), hX 95 _ (by omega)]; exact l4 i w hw
  · rw [hX 101 _ (by omega), hX 101 _ (by omega), hX 101 _ (by omega), hX 101 _ (by omega), hX 101 _ (by omega), hX 101 _ (by omega), hX 101 _ (by omega)]; exact l5 i w hw
  · rw [hX 95 _ (by omega)]; exact l6
  · rw [hX 95 _ (by omega)]; exact l7
/-- a row of the law is written -/
theorem LB_w {L h k j : Nat} {s : aT} {v : Int32} (hs : s.2.2.2.2.2.length = L) (hj : j = 8 * L + 4 ∨ j = 8 * L + 5 ∨ j = 8 * L + 6) (hL : LB L h k s I) : LB L h k s (u2 I 95 j v) := by
  obtain ⟨l1, l2, l3, l4, l5, l6, l7⟩ := hL
  refine ⟨by rw [u2_a (by decide)]; exact l1, by rw [u2_a (by decide)]; exact l2, by rw [u2_a (by decide)]; exact l3, fun i w hw => ?_, fun i w hw => ?_, by rw [u2_k (by omega)]; exact l6, by rw [u2_k (by omega)]; exact l7⟩
  · have hi : i < L := by
      apply Classical.byContradiction
      intro z
      rw [List.getElem?_eq_none (by omega)] at hw
      cases hw
    rw [u2_k (by omega), u2_k (by omega), u2_k (by omega), u2_k (by omega), u2_k (by omega)]; exact l4 i w hw
  · rw [u2_a (by decide), u2_a (by decide), u2_a (by decide), u2_a (by decide), u2_a (by decide), u2_a (by decide), u2_a (by decide)]; exact l5 i w hw
theorem c_mLaw (hg : Geo g) {hd p k L : Nat} {s : aT} (hs : TI n s) (hp : s.1 ≤ p) (hpn : p ≤ n) (h1 : 1 ≤ hd) (h3 : hd ≤ 3) (hL : s.2.2.2.2.2.length = L) (hL24 : L < 24) (hZ : ZE B n p s.2.1 s.2.2.2.1 I J) (hLB : LB L hd k s I) (h0 : ∀ q, pLaw B n hd p s = .inl q → ∀ I' J', XTX I I' → XNJ J J' → I' 89 14 = nI 1 → I' 89 13 = nI q → Q none (g, I', J')) (hQ : ∀ w, pLaw B n hd p s = .inr w → ∀ I' J', XTX I I' → XNJ J J' → I' 89 13 = I 89 13 → MT B n k w I' J' → Q none (g, I', J')) : ∀ v1 v2 v4, (if nI (hd - 1) = nI 2 then a_wp aTab aMX (d + 7) m_Mo_readClause 186 [.ref 89, v1, v2, .int (nI (8 * L)), v4] [] (g, I, J) Q else a_wp aTab aMX (d + 7) m_Mo_readClause 181 [.ref 89, v1, v2, .int (nI (8 * L)), v4] [] (g, I, J) Q) := by
  intro v1 v2 v4
  have hB := hZ.1.1
  have hn := hZ.1.2.1
  obtain ⟨i1, i2, i3, i4, i5, i6⟩ := hs
  unfold pLaw at h0 hQ
  have hv : ∀ j, j < 8 → vp_in (nI (8 * L + j)) 192 := fun j hj => by rw [nvi (show 8 * L + j < 192 by omega) (by omega)]; trivial
  -- bad, to the end
  have bend : ∀ {I1 : Nat → Nat → Int32} {J1 : Nat → Nat → Int64} {q : Nat}, I1 89 14 = nI 1 → I1 89 13 = nI q → XTX I I1 → XNJ J J1 → (∀ I' J', XTX I I' → XNJ J J' → I' 89 14 = nI 1 → I' 89 13 = nI q → Q none (g, I', J')) → ∀ v1 v2 v4, a_wp aTab aMX (d + 7) m_Mo_readClause 236 [.ref 89, v1, v2, .int (nI (8 * L)), v4] [] (g, I1, J1) Q := by
    intro I1 J1 q e14 e13 hX hXJ hq v1 v2 v4
    rw [b_Mo_readClause_236 hg, nadd, ncl (by omega)]
    exact ⟨hv 6 (by decide), hq _ J1 (XTX_u hX (by omega)) hXJ (by rw [u2_a (by decide)]; exact e14) (by rw [u2_a (by decide)]; exact e13)⟩
  -- behind the sum
  have at186 : ∀ (w : aS) I1 J1, pLs B n hd p s.2.1 s.2.2.1.length s.2.2.2.1.length = .inr w → XTX I I1 → XNJ J J1 → I1 89 13 = I 89 13 → ZE B n w.1 w.2.1 (s.2.2.2.1 ++ w.2.2.2.1) I1 J1 → LB L hd k s I1 → ∀ v1 v2 v4, a_wp aTab aMX (d + 7) m_Mo_readClause 186 [.ref 89, v1, v2, .int (nI (8 * L)), v4] [] (g, I1, J1) Q := by
    intro w I1 J1 ew X1 Y1 f1 Z1 B1 v1 v2 v4
    obtain ⟨a1, a2, a3, a4, a5, a6⟩ := ls_P hB hpn i4 ew
    rw [ew] at h0 hQ
    have h0 : ∀ q, thx (pLt B n w.1 w.2.1 (s.2.2.1 ++ w.2.2.1).length (s.2.2.2.1 ++ w.2.2.2.1).length) (fun z => (.inr (z.1, z.2.1, s.2.2.1 ++ w.2.2.1 ++ z.2.2.1, s.2.2.2.1 ++ w.2.2.2.1 ++ z.2.2.2.1, s.2.2.2.2.1, s.2.2.2.2.2 ++ [(hd, (s.2.2.1.length, (s.2.2.1 ++ w.2.2.1).length, (s.2.2.1 ++ w.2.2.1 ++ z.2.2.1).length), (s.2.2.2.1.length, (s.2.2.2.1 ++ w.2.2.2.1).length, (s.2.2.2.1 ++ w.2.2.2.1 ++ z.2.2.2.1).length), w.2.2.2.2, z.2.2.2.2)]) : Nat ⊕ aT)) = .inl q → ∀ I' J', XTX I I' → XNJ J J' → I' 89 14 = nI 1 → I' 89 13 = nI q → Q none (g, I', J') := h0
    have hQ : ∀ y, thx (pLt B n w.1 w.2.1 (s.2.2.1 ++ w.2.2.1).length (s.2.2.2.1 ++ w.2.2.2.1).length) (fun z => (.inr (z.1, z.2.1, s.2.2.1 ++ w.2.2.1 ++ z.2.2.1, s.2.2.2.1 ++ w.2.2.2.1 ++ z.2.2.2.1, s.2.2.2.2.1, s.2.2.2.2.2 ++ [(hd, (s.2.2.1.length, (s.2.2.1 ++ w.2.2.1).length, (s.2.2.1 ++ w.2.2.1 ++ z.2.2.1).length), (s.2.2.2.1.length, (s.2.2.2.1 ++ w.2.2.2.1).length, (s.2.2.2.1 ++ w.2.2.2.1 ++ z.2.2.2.1).length), w.2.2.2.2, z.2.2.2.2)]) : Nat ⊕ aT)) = .inr y → ∀ I' J', XTX I I' → XNJ J J' → I' 89 13 = I 89 13 → MT B n k y I' J' → Q none (g, I', J') := hQ
    have lR1 : (s.2.2.2.1 ++ w.2.2.2.1).length = s.2.2.2.1.length + w.2.2.2.1.length := List.length_append
    rw [b_Mo_readClause_186 hg, nadd, nadd, ncl (by omega), ncl (by omega), Z1.2.2.2.2.1, u2_a (by decide), u2_a (by decide), Z1.2.2.1, if_pos rfl, u2_a (by decide), Z1.2.2.2.2.1]
    refine ⟨hv 4 (by decide), hv 5 (by decide), ?_⟩
    have Z2 : ZE B n w.1 w.2.1 (s.2.2.2.1 ++ w.2.2.2.1) (u2 (u2 I1 95 (8 * L + 4) (nI (s.2.2.2.1 ++ w.2.2.2.1).length)) 95 (8 * L + 5) (nI (s.2.2.2.1 ++ w.2.2.2.1).length)) J1 := ZE_u (ZE_u Z1 (by omega)) (by omega)
    have B2 : LB L hd k s (u2 (u2 I1 95 (8 * L + 4) (nI (s.2.2.2.1 ++ w.2.2.2.1).length)) 95 (8 * L + 5) (nI (s.2.2.2.1 ++ w.2.2.2.1).length)) := LB_w hL (by omega) (LB_w hL (by omega) B1)
    have X2 : XTX I (u2 (u2 I1 95 (8 * L + 4) (nI (s.2.2.2.1 ++ w.2.2.2.1).length)) 95 (8 * L + 5) (nI (s.2.2.2.1 ++ w.2.2.2.1).length)) := XTX_u (XTX_u X1 (by omega)) (by omega)
    have f2 : u2 (u2 I1 95 (8 * L + 4) (nI (s.2.2.2.1 ++ w.2.2.2.1).length)) 95 (8 * L + 5) (nI (s.2.2.2.1 ++ w.2.2.2.1).length) 89 13 = I 89 13 := by rw [u2_a (by decide), u2_a (by decide)]; exact f1
    have r4 : u2 (u2 I1 95 (8 * L + 4) (nI (s.2.2.2.1 ++ w.2.2.2.1).length)) 95 (8 * L + 5) (nI (s.2.2.2.1 ++ w.2.2.2.1).length) 95 (8 * L + 4) = nI (s.2.2.2.1 ++ w.2.2.2.1).length := by rw [u2_k (by omega), u2_s]
    have r5 : u2 (u2 I1 95 (8 * L + 4) (nI (s.2.2.2.1 ++ w.2.2.2.1).length)) 95 (8 * L + 5) (nI (s.2.2.2.1 ++ w.2.2.2.1).length) 95 (8 * L + 5) = nI (s.2.2.2.1 ++ w.2.2.2.1).length := u2_s
    generalize u2 (u2 I1 95 (8 * L + 4) (nI (s.2.2.2.1 ++ w.2.2.2.1).length)) 95 (8 * L + 5) (nI (s.2.2.2.1 ++ w.2.2.2.1).length) = I2 at *
    -- the end
    have at236 : ∀ (z : aS) I3 J3, pLt B n w.1 w.2.1 (s.2.2.1 ++ w.2.2.1).length (s.2.2.2.1 ++ w.2.2.2.1).length = .inr z → XTX I I3 → XNJ J J3 → I3 89 13 = I 89 13 → ZE B n z.1 z.2.1 (s.2.2.2.1 ++ w.2.2.2.1 ++ z.2.2.2.1) I3 J3 → LB L hd k s I3 → I3 95 (8 * L + 4) = nI (s.2.2.2.1 ++ w.2.2.2.1).length → I3 95 (8 * L + 5) = nI (s.2.2.2.1 ++ w.2.2.2.1).length → ∀ v1 v2 v4, a_wp aTab aMX (d + 7) m_Mo_readClause 236 [.ref 89, v1, v2, .int (nI (8 * L)), v4] [] (g, I3, J3) Q := by
      intro z I3 J3 ez X3 Y3 f3 Z3 B3 y4 y5 v1 v2 v4
      rw [ez] at hQ
      rw [b_Mo_readClause_236 hg, nadd, ncl (by omega), Z3.2.2.2.2.1]
      refine ⟨hv 6 (by decide), hQ _ rfl _ J3 (XTX_u X3 (by omega)) Y3 (by rw [u2_a (by decide)]; exact f3) ?_⟩
      obtain ⟨l1, l2, l3, l4, l5, l6, l7⟩ := LB_w (j := 8 * L + 6) (v := nI (s.2.2.2.1 ++ w.2.2.2.1 ++ z.2.2.2.1).length) hL (by omega) B3
      refine ⟨ZE_u Z3 (by omega), l1, ?_, l3, fun i x hx => ?_, l5⟩
      · rw [l2, List.length_append, List.length_singleton, hL]
      · rcases gq hx with ⟨q1, q2⟩ | ⟨q1, q2⟩
        · exact l4 i x q2
        · rw [hL] at q1
          rw [q2, q1]
          exact ⟨l6, l7, by rw [u2_k (by omega)]; exact y4, by rw [u2_k (by omega)]; exact y5, u2_s⟩
    rw [b_Mo_readClause_217 hg, wh_if, c_isWordX hg hB Z2.2.1 (by decide)]
    simp only [exI]
    rw [b_Mo_readClause_224]
    unfold pLt at h0 hQ at236
    by_cases q5 : tk B n w.1 = 273
    · rw [if_pos q5] at h0 hQ at236
      rw [decide_eq_true (show tk B n w.1 = 259 + 14 from q5), if_neg (by decide), b_Mo_readClause_227 hg]
      refine c_nextZ hg a3 Z2 ?_
      intro I3 J3 X3 Y3 Z3
      simp only [exV, true_and]
      rw [b_Mo_readClause_231 hg]
      have hg3 : w.1 ≤ le B n w.1 := le_ge
      refine c_readExpr (te := true) (bC := (s.2.2.1 ++ w.2.2.1).length) hg Z3.1 (le_le a3) a5 (by omega) (ZE_R Z3) ?_ ?_
      · intro e he I4 J4 hBE
        rw [he] at h0
        refine ⟨rfl, bend hBE.2.2.1 hBE.2.2.2 (XTX_t X2 (XTX_t (XN_X X3) (XE_X hBE.1))) (XNJ_t Y1 (XNJ_t Y3 hBE.2.1)) (h0 e rfl) _ _ _⟩
      · intro z hz I4 J4 hRE
        obtain ⟨Z4, X4, Y4, f4⟩ := ZE_E Z3 hRE
        refine ⟨rfl, ?_⟩
        refine at236 z I4 J4 hz (XTX_t X2 (XTX_t (XN_X X3) (XE_X X4))) (XNJ_t Y1 (XNJ_t Y3 Y4)) (f4.trans ((X3 89 13 (by omega)).trans f2)) Z4 (LB_x (fun a j h => (X4 a j (by omega) (by omega)).trans (X3 a j (by omega))) B2) ?_ ?_ _ _ _
        · rw [X4 95 _ (by omega) (by omega), X3 95 _ (by omega)]; exact r4
        · rw [X4 95 _ (by omega) (by omega), X3 95 _ (by omega)]; exact r5
    · rw [if_neg q5] at at236
      rw [decide_eq_false (show ¬ tk B n w.1 = 259 + 14 from q5), if_pos bi_F]
      refine at236 (w.1, w.2.1, [], [], fun _ => some 1) I2 J1 rfl X2 Y1 f2 ?_ B2 r4 r5 _ _ _
      show ZE B n w.1 w.2.1 (s.2.2.2.1 ++ w.2.2.2.1 ++ []) I2 J1
      rw [List.append_nil]; exact Z2
  rw [req (by omega) (by omega)]
  by_cases q4 : hd = 3
  · have els : pLs B n hd p s.2.1 s.2.2.1.length s.2.2.2.1.length = .inr (p, s.2.1, [], [], fun _ => none) := by unfold pLs; rw [if_pos q4]
    rw [if_pos (by omega)]
    refine at186 _ I J els (XTX_r I) (fun _ _ _ => rfl) rfl ?_ hLB _ _ _
    show ZE B n p s.2.1 (s.2.2.2.1 ++ []) I J
    rw [List.append_nil]; exact hZ
  · have els : pLs B n hd p s.2.1 s.2.2.1.length s.2.2.2.1.length = pEx B n false p s.2.1 s.2.2.1.length s.2.2.2.1.length := by unfold pLs; rw [if_neg q4]
    rw [if_neg (by omega), b_Mo_readClause_181 hg]
    refine c_readExpr (te := false) (bC := s.2.2.1.length) hg hZ.1 hpn i4 (by omega) (ZE_R hZ) ?_ ?_
    · intro e he I1 J1 hBE
      rw [els.trans he] at h0
      refine ⟨rfl, ?_⟩
      have hX1 := XE_X hBE.1
      rw [b_Mo_readClause_186 hg, nadd, nadd, ncl (by omega), ncl (by omega), u2_a (by decide), u2_a (by decide), u2_a (by decide), hBE.2.2.1, if_neg (by decide)]
      refine ⟨hv 4 (by decide), hv 5 (by decide), ?_⟩
      exact bend (by rw [u2_a (by decide), u2_a (by decide)]; exact hBE.2.2.1) (by rw [u2_a (by decide), u2_a (by decide)]; exact hBE.2.2.2) (XTX_u (XTX_u hX1 (by omega)) (by omega)) hBE.2.1 (h0 e rfl) _ _ _
    · intro w hw I1 J1 hRE
      obtain ⟨Z1, X1, Y1, f1⟩ := ZE_E hZ hRE
      refine ⟨rfl, ?_⟩
      exact at186 w I1 J1 (els.trans hw) (XE_X X1) Y1 f1 Z1 (LB_x (fun a j h => X1 a j (by omega) (by omega)) hLB) _ _ _
end MCL
