/-! ===== the reference reads as the pure reader does: tests ===== -/
section RUN2
variable {te : Bool} {d : Nat} {g : aG} {B : Nat → Nat} {n : Nat} {I0 : Nat → Nat → Int32} {J0 : Nat → Nat → Int64} {Q : aQ}
def ES (t : Nat) : Prop := (True ∧ oT t = none) ∧ oS t = none
theorem sum_R (hg : Geo g) (hT : TP B n I0 J0) {nb : Nat} {fS : aF} (hP : nb ≠ 0 → PP n 0 fS) (hS : nb ≠ 0 → REFA te d g B n I0 J0 Q (nb - 1) 5 ES fS) : REFA te d g B n I0 J0 Q nb 5 ES (pSum B n nb fS) := by
  have hB := hT.1
  have h1 := part_R (E := ES) hg hT hP (fun t h => ⟨h.2, h.1.2⟩) hS
  have h2 : REFA te d g B n I0 J0 Q nb 6 (fun t => True ∧ oT t = none) (pTerm B n nb fS) := by
    refine loop_R (ops := oT) hg hT (part_P hB hP) (by decide) ?_ ?_ h1
    · intro t o h
      have h5 := oT_o h
      refine ⟨h5.1, h5.2.1, h5.2.2, ?_, Or.inr h⟩
      have : o = 4 ∨ o = 5 := by
        unfold oT at h
        split at h
        · cases h; exact Or.inl rfl
        · split at h
          · cases h; exact Or.inr rfl
          · cases h
      rcases this with w | w <;> rw [w] <;> decide
    · rintro t o o' _ h (h2 | h2)
      · unfold oT at h
        unfold oS at h2
        split at h2
        · rw [if_neg (by omega), if_neg (by omega)] at h; cases h
        · split at h2
          · rw [if_neg (by omega), if_neg (by omega)] at h; cases h
          · cases h2
      · rw [h] at h2; cases h2; rfl
  refine loop_R (ops := oS) hg hT (term_P hB hP) (by decide) ?_ ?_ h2
  · intro t o h
    have h5 := oS_o h
    refine ⟨h5.1, h5.2.1, h5.2.2, ?_, Or.inl h⟩
    have : o = 2 ∨ o = 3 := by
      unfold oS at h
      split at h
      · cases h; exact Or.inl rfl
      · split at h
        · cases h; exact Or.inr rfl
        · cases h
    rcases this with w | w <;> rw [w] <;> decide
  · rintro t o o' hE h (h2 | h2)
    · rw [h] at h2; cases h2; rfl
    · rw [hE.2] at h2; cases h2
/-- where tests may stand -/
def TE (te : Bool) (q : List (Nat × Nat)) : Prop := inn q ≠ some 31 ∧ ¬ (inn q = none ∧ te = false)
def REFT (te : Bool) (d : Nat) (g : aG) (B : Nat → Nat) (n : Nat) (I0 : Nat → Nat → Int32) (J0 : Nat → Nat → Int64) (Q : aQ) (nb l : Nat) (E : Nat → Prop) (f : aF) : Prop := ∀ p lv o q c bC, o + nb = 8 → CND n p lv o q c → TB l q → TE te q → (∀ e, f p lv bC c.length = .inl e → FAI te d g I0 J0 Q e) → (∀ w, f p lv bC c.length = .inr w → E (tk B n w.1) → ∀ q' c', stl l q' c' = (q, c ++ w.2.2.2.1) → PV q' → q'.length + c'.length ≤ w.1 → RUN te d g B n I0 J0 Q 2 w.1 w.2.1 o q' c') → RUN te d g B n I0 J0 Q 0 p lv o q c
theorem cmpd_4 {q : List (Nat × Nat)} (h : TB 4 q) : cmpd q = false := by
  cases q with
  | nil => rfl
  | cons x q =>
    have h : bnd x.1 < 4 := h
    have h27 : 27 ≤ x.1 := by
      apply Classical.byContradiction
      intro z
      unfold bnd at h
      rw [if_neg (by omega), if_neg (by omega), if_neg (by omega), if_neg (by omega)] at h
      split at h
      · omega
      · split at h <;> omega
    have e : cmpd (x :: q) = decide (x.1 ≤ 26) := if_neg (by omega)
    rw [e]
    exact decide_eq_false (by omega)
theorem cmp_R (hg : Geo g) (hT : TP B n I0 J0) {nb : Nat} {fS : aF} (hP : nb ≠ 0 → PP n 0 fS) (hS : REFA te d g B n I0 J0 Q nb 5 ES (pSum B n nb fS)) {p lv o bC : Nat} {q c : List (Nat × Nat)} (hnb : o + nb = 8) (hC : CND n p lv o q c) (hTB : TB 4 q) (hTE : TE te q) (hk1 : tk B n p ≠ 276) (hk2 : tk B n p ≠ 40) (hF : ∀ e, pCmp B n nb fS p lv bC c.length = .inl e → FAI te d g I0 J0 Q e) (hQs : ∀ w, pCmp B n nb fS p lv bC c.length = .inr w → ∀ q' c', stl 4 q' c' = (q, c ++ w.2.2.2.1) → PV q' → q'.length + c'.length ≤ w.1 → RUN te d g B n I0 J0 Q 2 w.1 w.2.1 o q' c') : RUN te d g B n I0 J0 Q 0 p lv o q c := by
  have hB := hT.1
  obtain ⟨c1, c2, c3, c4, c5, c6⟩ := hC
  have hPs := sum_P (n := n) hB hP
  unfold pCmp at hF hQs
  refine hS p lv o q c bC hnb ⟨c1, c2, c3, c4, c5, c6⟩ (TB_le (by decide) hTB) ?_ ?_ 0 (Or.inr ⟨rfl, hk1, hk2⟩)
  · intro e he
    rw [he] at hF
    exact hF e rfl
  · intro w hw hEw q' c' hst hV' hl'
    rw [hw] at hF hQs
    have hF : ∀ e, (match oC (tk B n w.1) with
      | none => (.inl (ls B n w.1) : Nat ⊕ aS)
      | some o => thn (pSum B n nb fS (le B n w.1) w.2.1 (bC + w.2.2.1.length) (c.length + w.2.2.2.1.length)) (fun z => .inr (z.1, z.2.1, w.2.2.1 ++ z.2.2.1 ++ [o], w.2.2.2.1 ++ z.2.2.2.1 ++ [(o + 18, 0)], v2 o w.2.2.2.2 z.2.2.2.2))) = .inl e → FAI te d g I0 J0 Q e := hF
    have hQs : ∀ y, (match oC (tk B n w.1) with
      | none => (.inl (ls B n w.1) : Nat ⊕ aS)
      | some o => thn (pSum B n nb fS (le B n w.1) w.2.1 (bC + w.2.2.1.length) (c.length + w.2.2.2.1.length)) (fun z => .inr (z.1, z.2.1, w.2.2.1 ++ z.2.2.1 ++ [o], w.2.2.2.1 ++ z.2.2.2.1 ++ [(o + 18, 0)], v2 o w.2.2.2.2 z.2.2.2.2))) = .inr y → ∀ q' c', stl 4 q' c' = (q, c ++ y.2.2.2.1) → PV q' → q'.length + c'.length ≤ y.1 → RUN te d g B n I0 J0 Q 2 y.1 y.2.1 o q' c' := hQs
    have hgw := hPs p lv bC c.length c3 w hw
    have gw := GP_len hgw
    have hle := le_le (B := B) gw.2.1
    have hi : inn q' = inn q := by
      have := inn_s (l := 5) (by decide) q' c'
      rw [hst] at this
      exact this.symm
    have hcm : cmpd q' = false := by
      have := cmpd_s q' c'
      rw [hst] at this
      exact this.symm.trans (cmpd_4 hTB)
    have hsl := stl_len (l := 5) q' c'
    rw [hst] at hsl
    have hsl1 : q.length + (c ++ w.2.2.2.1).length ≤ q'.length + c'.length := hsl.1
    have hlc : (c ++ w.2.2.2.1).length = c.length + w.2.2.2.1.length := List.length_append
    refine run3 hg hT ⟨hV', hl', gw.2.1, gw.2.2.1, c5, fun y => c6 (by rw [← hi]; exact y)⟩ ?_ ?_ ?_ ?_ ?_ ?_ ?_
    · rintro o' (y | y)
      · rw [hEw.2] at y; cases y
      · rw [hEw.1.2] at y; cases y
    · intro _ _ y; exact absurd (hi.symm.trans y) hTE.1
    · intro _ _ y; exact absurd (hi.symm.trans y) hTE.1
    · intro _ _ y y2; exact absurd ⟨hi.symm.trans y, y2⟩ hTE.2
    · intro _ _ _ _ y; rw [hcm] at y; cases y
    · intro _ _ _ _ _ o' ho'
      rw [ho'] at hF hQs
      have hF : ∀ e, thn (pSum B n nb fS (le B n w.1) w.2.1 (bC + w.2.2.1.length) (c.length + w.2.2.2.1.length)) (fun z => .inr (z.1, z.2.1, w.2.2.1 ++ z.2.2.1 ++ [o'], w.2.2.2.1 ++ z.2.2.2.1 ++ [(o' + 18, 0)], v2 o' w.2.2.2.2 z.2.2.2.2)) = .inl e → FAI te d g I0 J0 Q e := hF
      have hQs : ∀ y, thn (pSum B n nb fS (le B n w.1) w.2.1 (bC + w.2.2.1.length) (c.length + w.2.2.2.1.length)) (fun z => .inr (z.1, z.2.1, w.2.2.1 ++ z.2.2.1 ++ [o'], w.2.2.2.1 ++ z.2.2.2.1 ++ [(o' + 18, 0)], v2 o' w.2.2.2.2 z.2.2.2.2)) = .inr y → ∀ q' c', stl 4 q' c' = (q, c ++ y.2.2.2.1) → PV q' → q'.length + c'.length ≤ y.1 → RUN te d g B n I0 J0 Q 2 y.1 y.2.1 o q' c' := hQs
      have ho := oC_o ho'
      have hlt := tk_ne (n := n) (p := w.1) hB rfl ho.2.2
      rw [hst]
      have hbd : bnd (o' + 18) = 4 := by
        have : o' = 6 ∨ o' = 7 ∨ o' = 8 := by omega
        rcases this with y | y | y <;> rw [y] <;> decide
      have hi1 : inn ((o' + 18, 0) :: q) = inn q := if_neg (by show ¬ 30 ≤ o' + 18; omega)
      refine hS (le B n w.1) w.2.1 o ((o' + 18, 0) :: q) (c ++ w.2.2.2.1) (bC + w.2.2.1.length) hnb ⟨PV_c (by show 20 ≤ o' + 18; omega) (by show o' + 18 ≤ 31; omega) (by show 0 < 400; decide) c1, by rw [List.length_cons]; omega, hle, gw.2.2.1, c5, fun y => c6 (by rw [← hi1]; exact y)⟩ (by show bnd (o' + 18) < 5; rw [hbd]; decide) ?_ ?_ 1 (Or.inl rfl)
      · intro e2 he2
        rw [hlc] at he2
        rw [he2] at hF
        exact hF e2 rfl
      · intro z hz hEz q2 c2 hst2 hV2 hl2
        rw [hlc] at hz
        rw [hz] at hQs
        have hQs := hQs _ rfl
        have gz := GP_len (hPs (le B n w.1) w.2.1 (bC + w.2.2.1.length) (c.length + w.2.2.2.1.length) hle z hz)
        have hi2 : inn q2 = inn q := by
          have := inn_s (l := 5) (by decide) q2 c2
          rw [hst2] at this
          exact this.symm.trans hi1
        have hcm2 : cmpd q2 = true := by
          have := cmpd_s q2 c2
          rw [hst2] at this
          have e : cmpd ((o' + 18, 0) :: q) = decide (o' + 18 ≤ 26) := if_neg (by show ¬ o' + 18 ≤ 23; omega)
          rw [← this]
          exact e.trans (decide_eq_true (by omega))
        refine run3 hg hT ⟨hV2, hl2, gz.2.1, gz.2.2.1, c5, fun y => c6 (by rw [← hi2]; exact y)⟩ ?_ ?_ ?_ ?_ ?_ ?_ ?_
        · rintro o'' (y | y)
          · rw [hEz.2] at y; cases y
          · rw [hEz.1.2] at y; cases y
        · intro _ _ y; exact absurd (hi2.symm.trans y) hTE.1
        · intro _ _ y; exact absurd (hi2.symm.trans y) hTE.1
        · intro _ _ y y2; exact absurd ⟨hi2.symm.trans y, y2⟩ hTE.2
        · intro _ _ _ _ _
          refine hQs q2 c2 ?_ hV2 hl2
          rw [stl_2 (show 4 ≤ 5 by decide), hst2]
          show stl 4 ((o' + 18, 0) :: q) (c ++ w.2.2.2.1 ++ z.2.2.2.1) = _
          rw [stl_c, if_neg (by show ¬ bnd (o' + 18) < 4; rw [hbd]; decide), if_neg (by show ¬ (o' + 18 = 28 ∨ o' + 18 = 29); omega), stl_T hTB]
          show (q, c ++ w.2.2.2.1 ++ z.2.2.2.1 ++ [(o' + 18, 0)]) = (q, c ++ (w.2.2.2.1 ++ z.2.2.2.1 ++ [(o' + 18, 0)]))
          simp only [List.append_assoc]
        · intro _ _ _ _ y; rw [hcm2] at y; cases y
        · intro _ _ _ _ y; rw [hcm2] at y; cases y
    · intro _ _ _ _ _ hno
      rw [hno] at hF
      exact hF _ rfl
def EA (t : Nat) : Prop := True ∧ t ≠ 275
def EO (t : Nat) : Prop := EA t ∧ t ≠ 274
theorem not_R (hg : Geo g) (hT : TP B n I0 J0) {nb : Nat} {fS fT : aF} (hP : nb ≠ 0 → PP n 0 fS) (hPT : nb ≠ 0 → PP n 1 fT) (hS : REFA te d g B n I0 J0 Q nb 5 ES (pSum B n nb fS)) (hTT : nb ≠ 0 → REFT te d g B n I0 J0 Q (nb - 1) 1 EO fT) {p lv o bC : Nat} {q c : List (Nat × Nat)} (hnb : o + nb = 8) (hC : CND n p lv o q c) (hTB : TB 4 q) (hTE : TE te q) (hk1 : tk B n p ≠ 276) (hF : ∀ e, pNot B n nb fS fT p lv bC c.length = .inl e → FAI te d g I0 J0 Q e) (hQs : ∀ w, pNot B n nb fS fT p lv bC c.length = .inr w → ∀ q' c', stl 4 q' c' = (q, c ++ w.2.2.2.1) → PV q' → q'.length + c'.length ≤ w.1 → RUN te d g B n I0 J0 Q 2 w.1 w.2.1 o q' c') : RUN te d g B n I0 J0 Q 0 p lv o q c := by
  have hB := hT.1
  unfold pNot at hF hQs
  by_cases z : tk B n p = 40
  rotate_left
  · rw [if_neg z] at hF hQs
    exact cmp_R hg hT hP hS hnb hC hTB hTE hk1 z hF hQs
  rw [if_pos z] at hF hQs
  obtain ⟨c1, c2, c3, c4, c5, c6⟩ := hC
  have hlt := tk_ne (n := n) (p := p) hB z (by decide)
  have hle := le_le (B := B) c3
  refine run0 hg hT ⟨c1, c2, c3, c4, c5, c6⟩ (Or.inr z) (fun y => absurd y hk1) ?_ ?_
  · intro _ ho
    have hn0 : nb ≠ 0 := by omega
    rw [if_neg hn0] at hF hQs
    unfold pIn at hF hQs
    refine hTT hn0 (le B n p) lv (o + 1) ((30, 0) :: q) c bC (by omega) ⟨PV_c (by decide) (by decide) (by decide) c1, by rw [List.length_cons]; omega, hle, c4, by omega, fun _ => by omega⟩ (show bnd 30 < 1 by decide) ⟨by show some 30 ≠ some 31; decide, fun y => by cases y.1⟩ ?_ ?_
    · intro e he
      rw [he] at hF
      exact hF e rfl
    · intro w hw hEw q' c' hst hV' hl'
      rw [hw] at hF hQs
      have hF : ∀ e, (if tk B n w.1 = 41 then (.inr (le B n w.1, w.2) : Nat ⊕ aS) else .inl (ls B n w.1)) = .inl e → FAI te d g I0 J0 Q e := hF
      have hQs : ∀ z, (if tk B n w.1 = 41 then (.inr (le B n w.1, w.2) : Nat ⊕ aS) else .inl (ls B n w.1)) = .inr z → ∀ q' c', stl 4 q' c' = (q, c ++ z.2.2.2.1) → PV q' → q'.length + c'.length ≤ z.1 → RUN te d g B n I0 J0 Q 2 z.1 z.2.1 o q' c' := hQs
      have gw := GP_len (hPT hn0 (le B n p) lv bC c.length hle w hw)
      have hi : inn q' = some 30 := by
        have := inn_s (l := 1) (by decide) q' c'
        rw [hst] at this
        exact this.symm
      refine run2 hg hT ⟨hV', hl', gw.2.1, gw.2.2.1, by omega, fun _ => by omega⟩ (fun y => absurd y hEw.1.2) (fun y => absurd y hEw.2) ?_ ?_ ?_
      · intro _ _ y; rw [hi] at y; cases y
      · intro _ _ _ h41
        rw [if_pos h41] at hQs
        rw [hst, Nat.add_sub_cancel]
        have := tk_ne (n := n) (p := w.1) hB h41 (by decide)
        exact hQs (le B n w.1, w.2) rfl q (c ++ w.2.2.2.1) (stl_T hTB) c1 (by rw [List.length_append]; show _ ≤ le B n w.1; omega)
      · intro _ _ _ h41
        rw [if_neg h41] at hF
        exact hF _ rfl
  · intro _ ho
    rw [if_pos (by omega)] at hF
    exact hF _ rfl
theorem rep_c (m : Nat) (q : List (Nat × Nat)) : List.replicate (m + 1) ((27, 0) : Nat × Nat) ++ q = (27, 0) :: (List.replicate m (27, 0) ++ q) := rfl
theorem rep_r : ∀ (m : Nat) (q : List (Nat × Nat)), List.replicate m ((27, 0) : Nat × Nat) ++ ((27, 0) :: q) = List.replicate (m + 1) (27, 0) ++ q
  | 0, q => rfl
  | m + 1, q => by rw [rep_c, rep_r m q]; rfl
theorem stl_rep {q : List (Nat × Nat)} (h : TB 3 q) : ∀ m c, stl 3 (List.replicate m (27, 0) ++ q) c = (q, c ++ List.replicate m (27, 0))
  | 0, c => by
    show stl 3 q c = (q, c ++ [])
    rw [stl_T h, List.append_nil]
  | m + 1, c => by
    rw [rep_c, stl_c, if_neg (by decide), if_neg (by decide), stl_rep h m]
    show (q, c ++ [(27, 0)] ++ List.replicate m (27, 0)) = _
    rw [List.append_assoc]
    rfl
theorem inn_rep {q : List (Nat × Nat)} : ∀ m, inn (List.replicate m (27, 0) ++ q) = inn q
  | 0 => rfl
  | m + 1 => by
    rw [rep_c]
    show (if 30 ≤ 27 then some 27 else inn (List.replicate m (27, 0) ++ q)) = _
    rw [if_neg (by decide)]
    exact inn_rep m
theorem TB_rep {q : List (Nat × Nat)} (h : TB 3 q) : ∀ m, TB 4 (List.replicate m (27, 0) ++ q)
  | 0 => TB_le (by decide) h
  | m + 1 => by
    rw [rep_c]
    show bnd 27 < 4
    decide
theorem PV_rep {q : List (Nat × Nat)} (h : PV q) : ∀ m, PV (List.replicate m (27, 0) ++ q)
  | 0 => h
  | m + 1 => by
    rw [rep_c]
    exact PV_c (by decide) (by decide) (by decide) (PV_rep h m)
theorem ngs_R (m : Nat) (w : aS) : (ngs m w).1 = w.1 ∧ (ngs m w).2.1 = w.2.1 ∧ (ngs m w).2.2.2.1 = w.2.2.2.1 ++ List.replicate m (27, 0) := by
  unfold ngs
  split <;> exact ⟨rfl, rfl, rfl⟩
theorem plain_R (hg : Geo g) (hT : TP B n I0 J0) {nb : Nat} {fS fT : aF} (hP : nb ≠ 0 → PP n 0 fS) (hPT : nb ≠ 0 → PP n 1 fT) (hS : REFA te d g B n I0 J0 Q nb 5 ES (pSum B n nb fS)) (hTT : nb ≠ 0 → REFT te d g B n I0 J0 Q (nb - 1) 1 EO fT) : REFT te d g B n I0 J0 Q nb 3 (fun _ => True) (pPlain B n nb fS fT) := by
  intro p lv o q c bC hnb hC hTB hTE hF hQs
  have hB := hT.1
  have hn := hT.2.1
  unfold pPlain at hF hQs
  obtain ⟨c1, c2, c3, c4, c5, c6⟩ := hC
  obtain ⟨M, eM⟩ : ∃ M, M = ntN B n 400 p := ⟨_, rfl⟩
  obtain ⟨P0, eP⟩ : ∃ P0, P0 = ntP B n 400 p := ⟨_, rfl⟩
  rw [← eM, ← eP] at hF hQs
  have row : ∀ fu p' m', 400 ≤ fu + p' → p' ≤ n → m' + ntN B n fu p' = M → ntP B n fu p' = P0 → (List.replicate m' ((27, 0) : Nat × Nat) ++ q).length + c.length ≤ p' → RUN te d g B n I0 J0 Q 0 p' lv o (List.replicate m' (27, 0) ++ q) c := by
    have fin : ∀ p' m', p' ≤ n → tk B n p' ≠ 276 → m' = M → p' = P0 → (List.replicate m' ((27, 0) : Nat × Nat) ++ q).length + c.length ≤ p' → RUN te d g B n I0 J0 Q 0 p' lv o (List.replicate m' (27, 0) ++ q) c := by
      intro p' m' hp' hk em ep hl
      rw [← em, ← ep] at hF hQs
      refine not_R (bC := bC) hg hT hP hPT hS hTT hnb ⟨PV_rep c1 m', hl, hp', c4, c5, fun y => c6 (by rw [inn_rep] at y; exact y)⟩ (TB_rep hTB m') ⟨by rw [inn_rep]; exact hTE.1, by rw [inn_rep]; exact hTE.2⟩ hk ?_ ?_
      · intro e he
        rw [he] at hF
        exact hF e rfl
      · intro w hw q' c' hst hV' hl'
        rw [hw] at hQs
        have hQs := hQs (ngs m' w) rfl trivial q' c'
        have hng := ngs_R m' w
        rw [hng.1, hng.2.1, hng.2.2] at hQs
        refine hQs ?_ hV' hl'
        rw [stl_2 (show 3 ≤ 4 by decide), hst]
        show stl 3 (List.replicate m' (27, 0) ++ q) (c ++ w.2.2.2.1) = _
        rw [stl_rep hTB, List.append_assoc]
    intro fu
    induction fu with
    | zero =>
      intro p' m' h0 hp' h1 h2 hl
      have h1 : m' + 0 = M := h1
      refine fin p' m' hp' (fun y => ?_) (by omega) h2 hl
      have := (le_gt (n := n) (p := p') hB (by rw [y]; decide)).1
      have := le_le (B := B) hp'
      omega
    | succ fu ih =>
      intro p' m' h0 hp' h1 h2 hl
      unfold ntN at h1
      unfold ntP at h2
      by_cases y : tk B n p' = 276
      · rw [if_pos y] at h1 h2
        have hlt := tk_ne (n := n) (p := p') hB y (by decide)
        have hle := le_le (B := B) hp'
        refine run0 hg hT ⟨PV_rep c1 m', hl, hp', c4, c5, fun z => c6 (by rw [inn_rep] at z; exact z)⟩ (Or.inl y) (fun _ => ?_) (fun z => by rw [y] at z; cases z) (fun z => by rw [y] at z; cases z)
        rw [← rep_c]
        refine ih (le B n p') (m' + 1) (by omega) hle (by omega) h2 ?_
        rw [rep_c, List.length_cons]
        omega
      · rw [if_neg y] at h1 h2
        exact fin p' m' hp' y (by omega) h2 hl
  exact row 400 p 0 (by omega) c3 (by rw [eM]; omega) eP.symm c2
end RUN2
