/-! ===== the reference reads as the pure reader does ===== -/
def RUN (te : Bool) (d : Nat) (g : aG) (B : Nat → Nat) (n : Nat) (I0 : Nat → Nat → Int32) (J0 : Nat → Nat → Int64) (Q : aQ) (t p lv o : Nat) (q c : List (Nat × Nat)) : Prop := ∀ I J, RX B n I0 J0 p lv o q c I J → a_wp aTab aMX (d + 6) m_Mo_readExpression 20 [.ref 89, .int (bi te), .int (nI t)] [] (g, I, J) Q
def FAI (te : Bool) (d : Nat) (g : aG) (I0 : Nat → Nat → Int32) (J0 : Nat → Nat → Int64) (Q : aQ) (f : Nat) : Prop := ∀ q c I J, BX I0 J0 f q c I J → PV q → q.length + c.length ≤ 400 → ∀ t, a_wp aTab aMX (d + 6) m_Mo_readExpression 20 [.ref 89, .int (bi te), .int (nI t)] [] (g, I, J) Q
def CND (n p lv o : Nat) (q c : List (Nat × Nat)) : Prop := PV q ∧ q.length + c.length ≤ p ∧ p ≤ n ∧ lv ≤ 50 ∧ o ≤ 8 ∧ (inn q ≠ none → 1 ≤ o)
def SOK (t k : Nat) : Prop := t = 1 ∨ (t = 0 ∧ k ≠ 276 ∧ k ≠ 40)
section RUNS
variable {te : Bool} {d : Nat} {g : aG} {B : Nat → Nat} {n : Nat} {I0 : Nat → Nat → Int32} {J0 : Nat → Nat → Int64} {Q : aQ}
theorem run1 (hg : Geo g) (hT : TP B n I0 J0) {t p lv o : Nat} {q c : List (Nat × Nat)} (hC : CND n p lv o q c) (ht : SOK t (tk B n p)) (h1 : tk B n p = 91 → o < 8 → RUN te d g B n I0 J0 Q 1 (le B n p) lv (o + 1) ((31, 0) :: q) c) (h2 : tk B n p = 91 → ¬ o < 8 → FAI te d g I0 J0 Q (ls B n p)) (h3 : tk B n p ≠ 91 → ∀ w, pLeaf B n p lv = .inr w → RUN te d g B n I0 J0 Q 3 w.1 w.2.1 o q (c ++ w.2.2.2.1)) (h4 : tk B n p ≠ 91 → ∀ f, pLeaf B n p lv = .inl f → FAI te d g I0 J0 Q f) : RUN te d g B n I0 J0 Q t p lv o q c := by
  intro I J hX
  obtain ⟨c1, c2, c3, c4, c5, c6⟩ := hC
  have hn := hT.2.1
  rw [b_Mo_readExpression_20 hg, hX.2.2.2.1, if_pos rfl, b_Mo_readExpression_27]
  rcases ht with rfl | ⟨rfl, k1, k2⟩
  · rw [if_neg (by decide), b_Mo_readExpression_32, if_neg (by decide), b_Mo_readExpression_43, if_pos rfl, b_Mo_readExpression_48 hg]
    refine c_mPart hg hT c3 hX c5 c4 c2 ?_ ?_ ?_ ?_
    · intro a b I1 J1 X1
      simp only [exI]
      rw [b_Mo_readExpression_52, b_Mo_readExpression_72]
      exact h1 a b I1 J1 X1
    · intro a b I1 J1 X1
      simp only [exI]
      rw [b_Mo_readExpression_52, b_Mo_readExpression_72]
      exact h2 a b q c I1 J1 X1 c1 (by omega) _
    · intro a w e I1 J1 X1
      simp only [exI]
      rw [b_Mo_readExpression_52, b_Mo_readExpression_72]
      exact h3 a w e I1 J1 X1
    · intro a f e I1 J1 X1
      simp only [exI]
      rw [b_Mo_readExpression_52, b_Mo_readExpression_72]
      exact h4 a f e q c I1 J1 X1 c1 (by omega) _
  · rw [if_neg (by decide), b_Mo_readExpression_32, if_pos rfl, b_Mo_readExpression_36 hg]
    refine c_mPlain (Q := fun v h2 => ∃ i : Int32, v = some (.int i) ∧ a_wp aTab aMX (d + 6) m_Mo_readExpression 40 [.ref 89, .int (bi te), aU] [.int i] h2 Q) hg hT c3 hX c5 c4 c2 (fun z => absurd z k1) (fun z => absurd z k2) (fun z => absurd z k2) ?_
    intro _ _ Q' hQ'
    refine c_mPart hg hT c3 hX c5 c4 c2 ?_ ?_ ?_ ?_
    · intro a b I1 J1 X1
      refine hQ' _ _ ?_
      simp only [exI]
      rw [b_Mo_readExpression_40, b_Mo_readExpression_72]
      exact h1 a b I1 J1 X1
    · intro a b I1 J1 X1
      refine hQ' _ _ ?_
      simp only [exI]
      rw [b_Mo_readExpression_40, b_Mo_readExpression_72]
      exact h2 a b q c I1 J1 X1 c1 (by omega) _
    · intro a w e I1 J1 X1
      refine hQ' _ _ ?_
      simp only [exI]
      rw [b_Mo_readExpression_40, b_Mo_readExpression_72]
      exact h3 a w e I1 J1 X1
    · intro a f e I1 J1 X1
      refine hQ' _ _ ?_
      simp only [exI]
      rw [b_Mo_readExpression_40, b_Mo_readExpression_72]
      exact h4 a f e q c I1 J1 X1 c1 (by omega) _
theorem run0 (hg : Geo g) (hT : TP B n I0 J0) {p lv o : Nat} {q c : List (Nat × Nat)} (hC : CND n p lv o q c) (ht : tk B n p = 276 ∨ tk B n p = 40) (h0 : tk B n p = 276 → RUN te d g B n I0 J0 Q 0 (le B n p) lv o ((27, 0) :: q) c) (h1 : tk B n p = 40 → o < 8 → RUN te d g B n I0 J0 Q 0 (le B n p) lv (o + 1) ((30, 0) :: q) c) (h2 : tk B n p = 40 → ¬ o < 8 → FAI te d g I0 J0 Q (ls B n p)) : RUN te d g B n I0 J0 Q 0 p lv o q c := by
  intro I J hX
  obtain ⟨c1, c2, c3, c4, c5, c6⟩ := hC
  have hn := hT.2.1
  rw [b_Mo_readExpression_20 hg, hX.2.2.2.1, if_pos rfl, b_Mo_readExpression_27, if_neg (by decide), b_Mo_readExpression_32, if_pos rfl, b_Mo_readExpression_36 hg]
  refine c_mPlain hg hT c3 hX c5 c4 c2 ?_ ?_ ?_ ?_
  · intro a I1 J1 X1
    simp only [exI]
    rw [b_Mo_readExpression_40, b_Mo_readExpression_72]
    exact h0 a I1 J1 X1
  · intro a b I1 J1 X1
    simp only [exI]
    rw [b_Mo_readExpression_40, b_Mo_readExpression_72]
    exact h1 a b I1 J1 X1
  · intro a b I1 J1 X1
    simp only [exI]
    rw [b_Mo_readExpression_40, b_Mo_readExpression_72]
    exact h2 a b q c I1 J1 X1 c1 (by omega) _
  · intro a b
    exact absurd ht (by rintro (z | z); exact a z; exact b z)
theorem run3 (hg : Geo g) (hT : TP B n I0 J0) {p lv o : Nat} {q c : List (Nat × Nat)} (hC : CND n p lv o q c)
    (hA : ∀ o', (oS (tk B n p) = some o' ∨ oT (tk B n p) = some o') → RUN te d g B n I0 J0 Q 1 (le B n p) lv o ((o' + 18, 0) :: (stl (bnd (o' + 18)) q c).1) (stl (bnd (o' + 18)) q c).2)
    (hB1 : oS (tk B n p) = none → oT (tk B n p) = none → inn q = some 31 → tk B n p = 93 → RUN te d g B n I0 J0 Q 3 (le B n p) lv (o - 1) (stl 5 q c).1.tail (stl 5 q c).2)
    (hB0 : oS (tk B n p) = none → oT (tk B n p) = none → inn q = some 31 → tk B n p ≠ 93 → FAI te d g I0 J0 Q (ls B n p))
    (hC4 : oS (tk B n p) = none → oT (tk B n p) = none → inn q = none → te = false → RUN te d g B n I0 J0 Q 4 p lv o q c)
    (hD : oS (tk B n p) = none → oT (tk B n p) = none → inn q ≠ some 31 → ¬ (inn q = none ∧ te = false) → cmpd q = true → RUN te d g B n I0 J0 Q 2 p lv o q c)
    (hE1 : oS (tk B n p) = none → oT (tk B n p) = none → inn q ≠ some 31 → ¬ (inn q = none ∧ te = false) → cmpd q = false → ∀ o', oC (tk B n p) = some o' → RUN te d g B n I0 J0 Q 1 (le B n p) lv o ((o' + 18, 0) :: (stl 5 q c).1) (stl 5 q c).2)
    (hE0 : oS (tk B n p) = none → oT (tk B n p) = none → inn q ≠ some 31 → ¬ (inn q = none ∧ te = false) → cmpd q = false → oC (tk B n p) = none → FAI te d g I0 J0 Q (ls B n p)) : RUN te d g B n I0 J0 Q 3 p lv o q c := by
  intro I J hX
  obtain ⟨c1, c2, c3, c4, c5, c6⟩ := hC
  have hn := hT.2.1
  rw [b_Mo_readExpression_20 hg, hX.2.2.2.1, if_pos rfl, b_Mo_readExpression_27, if_neg (by decide), b_Mo_readExpression_32, if_neg (by decide), b_Mo_readExpression_43, if_neg (by decide), b_Mo_readExpression_55, if_pos rfl, b_Mo_readExpression_60 hg]
  refine c_behindSum hg hT c3 hX c1 c2 c6 c5 ?_ ?_ ?_ ?_ ?_ ?_ ?_
  · intro o' a I1 J1 X1
    simp only [exI]
    rw [b_Mo_readExpression_65, b_Mo_readExpression_72]
    exact hA o' a I1 J1 X1
  · intro a b e f I1 J1 X1
    simp only [exI]
    rw [b_Mo_readExpression_65, b_Mo_readExpression_72]
    exact hB1 a b e f I1 J1 X1
  · intro a b e f I1 J1 X1
    simp only [exI]
    rw [b_Mo_readExpression_65, b_Mo_readExpression_72]
    exact hB0 a b e f q c I1 J1 X1 c1 (by omega) _
  · intro a b e f
    simp only [exI]
    rw [b_Mo_readExpression_65, b_Mo_readExpression_72]
    exact hC4 a b e f I J hX
  · intro a b e f k
    simp only [exI]
    rw [b_Mo_readExpression_65, b_Mo_readExpression_72]
    exact hD a b e f k I J hX
  · intro a b e f k o' y I1 J1 X1
    simp only [exI]
    rw [b_Mo_readExpression_65, b_Mo_readExpression_72]
    exact hE1 a b e f k o' y I1 J1 X1
  · intro a b e f k y I1 J1 X1
    simp only [exI]
    rw [b_Mo_readExpression_65, b_Mo_readExpression_72]
    exact hE0 a b e f k y q c I1 J1 X1 c1 (by omega) _
theorem run2 (hg : Geo g) (hT : TP B n I0 J0) {p lv o : Nat} {q c : List (Nat × Nat)} (hC : CND n p lv o q c)
    (hA : tk B n p = 275 → RUN te d g B n I0 J0 Q 0 (le B n p) lv o ((28, (stl 2 q c).2.length) :: (stl 2 q c).1) ((stl 2 q c).2 ++ [(28, 0)]))
    (hO : tk B n p = 274 → RUN te d g B n I0 J0 Q 0 (le B n p) lv o ((29, (stl 1 q c).2.length) :: (stl 1 q c).1) ((stl 1 q c).2 ++ [(29, 0)]))
    (hC4 : tk B n p ≠ 275 → tk B n p ≠ 274 → inn q = none → RUN te d g B n I0 J0 Q 4 p lv o q c)
    (hB1 : tk B n p ≠ 275 → tk B n p ≠ 274 → inn q ≠ none → tk B n p = 41 → RUN te d g B n I0 J0 Q 2 (le B n p) lv (o - 1) (stl 1 q c).1.tail (stl 1 q c).2)
    (hB0 : tk B n p ≠ 275 → tk B n p ≠ 274 → inn q ≠ none → tk B n p ≠ 41 → FAI te d g I0 J0 Q (ls B n p)) : RUN te d g B n I0 J0 Q 2 p lv o q c := by
  intro I J hX
  obtain ⟨c1, c2, c3, c4, c5, c6⟩ := hC
  have hn := hT.2.1
  rw [b_Mo_readExpression_20 hg, hX.2.2.2.1, if_pos rfl, b_Mo_readExpression_27, if_neg (by decide), b_Mo_readExpression_32, if_neg (by decide), b_Mo_readExpression_43, if_neg (by decide), b_Mo_readExpression_55, if_neg (by decide), b_Mo_readExpression_68 hg]
  refine c_behindTest hg hT c3 hX c1 c2 c6 ?_ ?_ ?_ ?_ ?_
  · intro a I1 J1 X1
    simp only [exI]
    rw [b_Mo_readExpression_72]
    exact hA a I1 J1 X1
  · intro a I1 J1 X1
    simp only [exI]
    rw [b_Mo_readExpression_72]
    exact hO a I1 J1 X1
  · intro a b e
    simp only [exI]
    rw [b_Mo_readExpression_72]
    exact hC4 a b e I J hX
  · intro a b e f I1 J1 X1
    simp only [exI]
    rw [b_Mo_readExpression_72]
    exact hB1 a b e f I1 J1 X1
  · intro a b e f I1 J1 X1
    simp only [exI]
    rw [b_Mo_readExpression_72]
    exact hB0 a b e f q c I1 J1 X1 c1 (by omega) _
def REFA (te : Bool) (d : Nat) (g : aG) (B : Nat → Nat) (n : Nat) (I0 : Nat → Nat → Int32) (J0 : Nat → Nat → Int64) (Q : aQ) (nb l : Nat) (E : Nat → Prop) (f : aF) : Prop := ∀ p lv o q c bC, o + nb = 8 → CND n p lv o q c → TB l q → (∀ e, f p lv bC c.length = .inl e → FAI te d g I0 J0 Q e) → (∀ w, f p lv bC c.length = .inr w → E (tk B n w.1) → ∀ q' c', stl l q' c' = (q, c ++ w.2.2.2.1) → PV q' → q'.length + c'.length ≤ w.1 → RUN te d g B n I0 J0 Q 3 w.1 w.2.1 o q' c') → ∀ t, SOK t (tk B n p) → RUN te d g B n I0 J0 Q t p lv o q c
theorem TB_7 (q : List (Nat × Nat)) : TB 7 q := by
  cases q with
  | nil => trivial
  | cons x q =>
    have := bnd_le x.1
    show bnd x.1 < 7
    omega
theorem TB_le {l m : Nat} {q : List (Nat × Nat)} (h : l ≤ m) (hT : TB l q) : TB m q := by
  cases q with
  | nil => trivial
  | cons x q =>
    have hT : bnd x.1 < l := hT
    show bnd x.1 < m
    omega
theorem GP_len {k bC bR p lv : Nat} {w : aS} (h : GPs n k bC bR p lv w) : p + w.2.2.2.1.length ≤ w.1 ∧ w.1 ≤ n ∧ w.2.1 ≤ 50 ∧ p < w.1 := ⟨h.2.1, h.2.2.2.1, h.2.2.2.2.2.1, h.2.2.1⟩
theorem part_R (hg : Geo g) (hT : TP B n I0 J0) {nb : Nat} {fS : aF} {E : Nat → Prop} (hP : nb ≠ 0 → PP n 0 fS) (hE : ∀ t, E t → oS t = none ∧ oT t = none) (hS : nb ≠ 0 → REFA te d g B n I0 J0 Q (nb - 1) 5 E fS) : REFA te d g B n I0 J0 Q nb 7 (fun _ => True) (pPart B n nb fS) := by
  intro p lv o q c bC hnb hC hTB hf hs t ht
  have hB := hT.1
  obtain ⟨c1, c2, c3, c4, c5, c6⟩ := hC
  have hPp := part_P (n := n) hB hP p lv bC c.length c3
  refine run1 hg hT ⟨c1, c2, c3, c4, c5, c6⟩ ht ?_ ?_ ?_ ?_
  · intro z ho
    have hn0 : nb ≠ 0 := by omega
    have hlt := tk_ne (n := n) (p := p) hB z (by decide)
    have hle := le_le (B := B) c3
    have eP : pPart B n nb fS p lv bC c.length = pIn B n fS 93 p lv bC c.length := by unfold pPart; rw [if_pos z, if_neg hn0]
    rw [eP] at hf hs hPp
    unfold pIn at hf hs hPp
    refine hS hn0 (le B n p) lv (o + 1) ((31, 0) :: q) c bC (by omega) ⟨PV_c (by decide) (by decide) (by decide) c1, by rw [List.length_cons]; omega, hle, c4, by omega, fun _ => by omega⟩ (show bnd 31 < 5 by decide) ?_ ?_ 1 (Or.inl rfl)
    · intro e he
      rw [he] at hf
      exact hf e rfl
    · intro w hw hEw q' c' hst hV' hl'
      rw [hw] at hf hs hPp
      have hf : ∀ e, (if tk B n w.1 = 93 then (.inr (le B n w.1, w.2) : Nat ⊕ aS) else .inl (ls B n w.1)) = .inl e → FAI te d g I0 J0 Q e := hf
      have hs : ∀ z, (if tk B n w.1 = 93 then (.inr (le B n w.1, w.2) : Nat ⊕ aS) else .inl (ls B n w.1)) = .inr z → True → ∀ q' c', stl 7 q' c' = (q, c ++ z.2.2.2.1) → PV q' → q'.length + c'.length ≤ z.1 → RUN te d g B n I0 J0 Q 3 z.1 z.2.1 o q' c' := hs
      have gw := GP_len (hP hn0 (le B n p) lv bC c.length hle w hw)
      have hei := inn_s (l := 5) (by decide) q' c'
      rw [hst] at hei
      have hi : inn q' = some 31 := hei.symm
      have hE2 := hE _ hEw
      refine run3 hg hT ⟨hV', hl', gw.2.1, gw.2.2.1, by omega, fun _ => by omega⟩ ?_ ?_ ?_ ?_ ?_ ?_ ?_
      · rintro o' (y | y)
        · rw [hE2.1] at y; cases y
        · rw [hE2.2] at y; cases y
      · intro _ _ _ h93
        rw [if_pos h93] at hs
        rw [hst, Nat.add_sub_cancel]
        have := tk_ne (n := n) (p := w.1) hB h93 (by decide)
        exact hs (le B n w.1, w.2) rfl trivial q (c ++ w.2.2.2.1) (stl_T (TB_7 q)) c1 (by rw [List.length_append]; show _ ≤ le B n w.1; omega)
      · intro _ _ _ h93
        rw [if_neg h93] at hf
        exact hf _ rfl
      · intro _ _ y; rw [hi] at y; cases y
      · intro _ _ y; exact absurd hi y
      · intro _ _ y; exact absurd hi y
      · intro _ _ y; exact absurd hi y
  · intro z ho
    refine hf (ls B n p) ?_
    unfold pPart
    rw [if_pos z, if_pos (by omega)]
  · intro z w hw
    have eP : pPart B n nb fS p lv bC c.length = .inr w := by unfold pPart; rw [if_neg z]; exact hw
    have gw := GP_len (hPp w eP)
    exact hs w eP trivial q (c ++ w.2.2.2.1) (stl_T (TB_7 q)) c1 (by rw [List.length_append]; omega)
  · intro z e he
    refine hf e ?_
    unfold pPart
    rw [if_neg z]
    exact he
theorem loop_R (hg : Geo g) (hT : TP B n I0 J0) {nb l : Nat} {f : aF} {E : Nat → Prop} {ops : Nat → Option Nat} (hPf : PP n 0 f) (hl : 1 ≤ l) (ho : ∀ t o, ops t = some o → 2 ≤ o ∧ o ≤ 5 ∧ t ≠ 256 ∧ bnd (o + 18) = l ∧ (oS t = some o ∨ oT t = some o)) (hU : ∀ t o o', E t → ops t = some o → (oS t = some o' ∨ oT t = some o') → o' = o) (hf : REFA te d g B n I0 J0 Q nb (l + 1) E f) : REFA te d g B n I0 J0 Q nb l (fun t => E t ∧ ops t = none) (fun p lv bC bR => thn (f p lv bC bR) (lpA B n ops f bC bR 400)) := by
  intro p lv o q c bC hnb hC hTB hF hS t ht
  have hB := hT.1
  have hn := hT.2.1
  obtain ⟨c1, c2, c3, c4, c5, c6⟩ := hC
  have hF : ∀ e, thn (f p lv bC c.length) (lpA B n ops f bC c.length 400) = .inl e → FAI te d g I0 J0 Q e := hF
  have hS : ∀ w, thn (f p lv bC c.length) (lpA B n ops f bC c.length 400) = .inr w → (E (tk B n w.1) ∧ ops (tk B n w.1) = none) → ∀ q' c', stl l q' c' = (q, c ++ w.2.2.2.1) → PV q' → q'.length + c'.length ≤ w.1 → RUN te d g B n I0 J0 Q 3 w.1 w.2.1 o q' c' := hS
  have loop : ∀ fu w, 400 < fu + w.1 → GPs n 0 bC c.length p lv w → E (tk B n w.1) → (∀ e, lpA B n ops f bC c.length fu w = .inl e → FAI te d g I0 J0 Q e) → (∀ z, lpA B n ops f bC c.length fu w = .inr z → (E (tk B n z.1) ∧ ops (tk B n z.1) = none) → ∀ q' c', stl l q' c' = (q, c ++ z.2.2.2.1) → PV q' → q'.length + c'.length ≤ z.1 → RUN te d g B n I0 J0 Q 3 z.1 z.2.1 o q' c') → ∀ q' c', stl l q' c' = (q, c ++ w.2.2.2.1) → PV q' → q'.length + c'.length ≤ w.1 → RUN te d g B n I0 J0 Q 3 w.1 w.2.1 o q' c' := by
    intro fu
    induction fu with
    | zero =>
      intro w h0 hw
      have := hw.2.2.2.1
      omega
    | succ fu ih =>
      intro w h0 hw hE hF hS q' c' hst hV' hl'
      have gw := GP_len hw
      unfold lpA at hF hS
      cases e : ops (tk B n w.1) with
      | none =>
        rw [e] at hS
        exact hS w rfl ⟨hE, e⟩ q' c' hst hV' hl'
      | some o' =>
        rw [e] at hF hS
        have hF : ∀ e, thn (f (le B n w.1) w.2.1 (bC + w.2.2.1.length) (c.length + w.2.2.2.1.length)) (fun z => lpA B n ops f bC c.length fu (z.1, z.2.1, w.2.2.1 ++ z.2.2.1 ++ [o'], w.2.2.2.1 ++ z.2.2.2.1 ++ [(o' + 18, 0)], v2 o' w.2.2.2.2 z.2.2.2.2)) = .inl e → FAI te d g I0 J0 Q e := hF
        have hS : ∀ z, thn (f (le B n w.1) w.2.1 (bC + w.2.2.1.length) (c.length + w.2.2.2.1.length)) (fun z => lpA B n ops f bC c.length fu (z.1, z.2.1, w.2.2.1 ++ z.2.2.1 ++ [o'], w.2.2.2.1 ++ z.2.2.2.1 ++ [(o' + 18, 0)], v2 o' w.2.2.2.2 z.2.2.2.2)) = .inr z → (E (tk B n z.1) ∧ ops (tk B n z.1) = none) → ∀ q' c', stl l q' c' = (q, c ++ z.2.2.2.1) → PV q' → q'.length + c'.length ≤ z.1 → RUN te d g B n I0 J0 Q 3 z.1 z.2.1 o q' c' := hS
        have e1 := ho _ _ e
        have hlt := tk_ne (n := n) (p := w.1) hB rfl e1.2.2.1
        have hle := le_le (B := B) gw.2.1
        have hsl := stl_len (l := l) q' c'
        rw [hst] at hsl
        have hsl1 : q.length + (c ++ w.2.2.2.1).length ≤ q'.length + c'.length := hsl.1
        have hlc : (c ++ w.2.2.2.1).length = c.length + w.2.2.2.1.length := List.length_append
        have hi : inn q' = inn q := by
          have := inn_s hl q' c'
          rw [hst] at this
          exact this.symm
        have nn : ¬ (oS (tk B n w.1) = none ∧ oT (tk B n w.1) = none) := by
          rintro ⟨y1, y2⟩
          rcases e1.2.2.2.2 with y | y
          · rw [y1] at y; cases y
          · rw [y2] at y; cases y
        refine run3 hg hT ⟨hV', hl', gw.2.1, gw.2.2.1, c5, fun y => c6 (by rw [← hi]; exact y)⟩ ?_ (fun a b => absurd ⟨a, b⟩ nn) (fun a b => absurd ⟨a, b⟩ nn) (fun a b => absurd ⟨a, b⟩ nn) (fun a b => absurd ⟨a, b⟩ nn) (fun a b => absurd ⟨a, b⟩ nn) (fun a b => absurd ⟨a, b⟩ nn)
        intro o'' ho''
        have eo := hU _ _ _ hE e ho''
        rw [eo, e1.2.2.2.1, hst]
        refine hf (le B n w.1) w.2.1 o ((o' + 18, 0) :: q) (c ++ w.2.2.2.1) (bC + w.2.2.1.length) hnb ⟨PV_c (by show 20 ≤ o' + 18; omega) (by show o' + 18 ≤ 31; omega) (by show 0 < 400; decide) c1, by rw [List.length_cons]; omega, hle, gw.2.2.1, c5, fun y => c6 ?_⟩ (by show bnd (o' + 18) < l + 1; rw [e1.2.2.2.1]; omega) ?_ ?_ 1 (Or.inl rfl)
        · intro z
          apply y
          have : inn ((o' + 18, 0) :: q) = inn q := if_neg (by show ¬ 30 ≤ o' + 18; omega)
          rw [this]; exact z
        · intro e2 he2
          rw [hlc] at he2
          rw [he2] at hF
          exact hF e2 rfl
        · intro z hz hEz q2 c2 hst2 hV2 hl2
          rw [hlc] at hz
          rw [hz] at hF hS
          have hz2 := hPf (le B n w.1) w.2.1 (bC + w.2.2.1.length) (c.length + w.2.2.2.1.length) hle z hz
          have hbin := bin_P (k := 0) e1.1 (show o' ≤ 8 by omega) (by rw [if_pos e1.2.1]) hlt hw hz2
          refine ih _ (by show 400 < fu + z.1; have := hz2.2.2.1; omega) hbin hEz hF hS q2 c2 ?_ hV2 hl2
          rw [stl_2 (show l ≤ l + 1 by omega), hst2]
          show stl l ((o' + 18, 0) :: q) (c ++ w.2.2.2.1 ++ z.2.2.2.1) = _
          rw [stl_c, if_neg (by show ¬ bnd (o' + 18) < l; rw [e1.2.2.2.1]; omega), if_neg (by show ¬ (o' + 18 = 28 ∨ o' + 18 = 29); omega), stl_T hTB]
          show (q, c ++ w.2.2.2.1 ++ z.2.2.2.1 ++ [(o' + 18, 0)]) = (q, c ++ (w.2.2.2.1 ++ z.2.2.2.1 ++ [(o' + 18, 0)]))
          simp only [List.append_assoc]
  refine hf p lv o q c bC hnb ⟨c1, c2, c3, c4, c5, c6⟩ (TB_le (by omega) hTB) ?_ ?_ t ht
  · intro e he
    rw [he] at hF
    exact hF e rfl
  · intro w hw hEw q' c' hst hV' hl'
    rw [hw] at hF hS
    have hgw := hPf p lv bC c.length c3 w hw
    refine loop 400 w (by have := hgw.2.2.1; omega) hgw hEw hF hS q' c' ?_ hV' hl'
    rw [stl_2 (show l ≤ l + 1 by omega), hst]
    exact stl_T hTB
end RUNS
