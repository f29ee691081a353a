/-! ===== the reference reads as the pure reader does: all of it ===== -/
theorem set_mid (x y : Nat × Nat) (Z : List (Nat × Nat)) : ∀ A : List (Nat × Nat), (A ++ [x] ++ Z).set A.length y = A ++ [y] ++ Z ∧ (A ++ [x] ++ Z).getD A.length (0, 0) = x
  | [] => ⟨rfl, rfl⟩
  | a :: A => by
    have ih := set_mid x y Z A
    refine ⟨?_, ?_⟩
    · show a :: (A ++ [x] ++ Z).set A.length y = a :: (A ++ [y] ++ Z)
      rw [ih.1]
    · exact ih.2
theorem le_word {B : Nat → Nat} {n p j : Nat} (h : ∀ i, B i ≤ 255) (e : tk B n p = 259 + j) : p + wl j ≤ le B n p := by
  have h0 : p ≤ ls B n p := rN_ge
  have h2 := h (ls B n p)
  unfold tk at e
  unfold le
  by_cases q1 : ls B n p < de B n p
  · rw [if_pos q1] at e; omega
  · rw [if_neg q1] at e ⊢
    by_cases q2 : ls B n p < we B n p
    · rw [if_pos q2] at e ⊢
      have m := (wdF_mt 18 0 e).2
      have := m.1
      omega
    · rw [if_neg q2] at e
      by_cases q3 : ls B n p < n
      · rw [if_pos q3] at e; omega
      · rw [if_neg q3] at e; omega
section RUN3
variable {te : Bool} {d : Nat} {g : aG} {B : Nat → Nat} {n : Nat} {I0 : Nat → Nat → Int32} {J0 : Nat → Nat → Int64} {Q : aQ}
theorem loopL_R (hg : Geo g) (hT : TP B n I0 J0) {nb l kt ol : Nat} {f : aF} {E : Nat → Prop} {ops : Nat → Option Nat} (hPf : PP n 1 f) (hk : (kt = 275 ∧ ol = 11 ∧ l = 2 ∧ ops = oA) ∨ (kt = 274 ∧ ol = 10 ∧ l = 1 ∧ ops = oO)) (hEk : ∀ t, l = 1 → E t → t ≠ 275) (hf : REFT te d g B n I0 J0 Q nb (l + 1) E f) : REFT te d g B n I0 J0 Q nb l (fun t => E t ∧ t ≠ kt) (fun p lv bC bR => thn (f p lv bC bR) (lpL B n ops f bC bR 400)) := by
  intro p lv o q c bC hnb hC hTB hTE hF hS
  have hB := hT.1
  have hn := hT.2.1
  obtain ⟨c1, c2, c3, c4, c5, c6⟩ := hC
  have hl : 1 ≤ l := by rcases hk with ⟨_, _, w, _⟩ | ⟨_, _, w, _⟩ <;> omega
  have hop : ops kt = some ol ∧ (∀ t, t ≠ kt → ops t = none) ∧ kt ≠ 256 ∧ (ol = 10 ∨ ol = 11) ∧ bnd (39 - ol) = l ∧ (39 - ol = 28 ∨ 39 - ol = 29) ∧ (∀ p, tk B n p = kt → p + 2 ≤ le B n p) := by
    rcases hk with ⟨w1, w2, w3, w4⟩ | ⟨w1, w2, w3, w4⟩
    · rw [w1, w2, w3, w4]
      refine ⟨by decide, fun t ht => by unfold oA; rw [if_neg ht], by decide, Or.inr rfl, by decide, Or.inl rfl, fun p hp => ?_⟩
      have := le_word (n := n) (p := p) (j := 16) hB hp
      have e : wl 16 = 3 := by decide +kernel
      omega
    · rw [w1, w2, w3, w4]
      refine ⟨by decide, fun t ht => by unfold oO; rw [if_neg ht], by decide, Or.inl rfl, by decide, Or.inr rfl, fun p hp => ?_⟩
      have := le_word (n := n) (p := p) (j := 15) hB hp
      have e : wl 15 = 2 := by decide +kernel
      omega
  obtain ⟨o1, o2, o3, o4, o5, o6, o7⟩ := hop
  have hF : ∀ e, thn (f p lv bC c.length) (lpL B n ops f bC c.length 400) = .inl e → FAI te d g I0 J0 Q e := hF
  have hS : ∀ w, thn (f p lv bC c.length) (lpL B n ops f bC c.length 400) = .inr w → (E (tk B n w.1) ∧ tk B n w.1 ≠ kt) → ∀ q' c', stl l q' c' = (q, c ++ w.2.2.2.1) → PV q' → q'.length + c'.length ≤ w.1 → RUN te d g B n I0 J0 Q 2 w.1 w.2.1 o q' c' := hS
  have loop : ∀ fu w, 400 < fu + w.1 → GPs n 1 bC c.length p lv w → E (tk B n w.1) → (∀ e, lpL B n ops f bC c.length fu w = .inl e → FAI te d g I0 J0 Q e) → (∀ z, lpL B n ops f bC c.length fu w = .inr z → (E (tk B n z.1) ∧ tk B n z.1 ≠ kt) → ∀ q' c', stl l q' c' = (q, c ++ z.2.2.2.1) → PV q' → q'.length + c'.length ≤ z.1 → RUN te d g B n I0 J0 Q 2 z.1 z.2.1 o q' c') → ∀ q' c', stl l q' c' = (q, c ++ w.2.2.2.1) → PV q' → q'.length + c'.length ≤ w.1 → RUN te d g B n I0 J0 Q 2 w.1 w.2.1 o q' c' := by
    intro fu
    induction fu with
    | zero =>
      intro w h0 hw
      have := hw.2.2.2.1
      omega
    | succ fu ih =>
      intro w h0 hw hE hF hS q' c' hst hV' hl'
      have gw := GP_len hw
      unfold lpL at hF hS
      by_cases ek : tk B n w.1 = kt
      rotate_left
      · rw [o2 _ ek] at hS
        exact hS w rfl ⟨hE, ek⟩ q' c' hst hV' hl'
      rw [ek, o1] at hF hS
      have hF : ∀ e, thn (f (le B n w.1) w.2.1 (bC + w.2.2.1.length + 1) (c.length + w.2.2.2.1.length + 1)) (fun z => lpL B n ops f bC c.length fu (z.1, z.2.1, w.2.2.1 ++ [(bC + w.2.2.1.length + 1 + z.2.2.1.length) * 16 + ol] ++ z.2.2.1, w.2.2.2.1 ++ [(39 - ol, c.length + w.2.2.2.1.length + 1 + z.2.2.2.1.length)] ++ z.2.2.2.1, va ol w.2.2.2.2 z.2.2.2.2)) = .inl e → FAI te d g I0 J0 Q e := hF
      have hS : ∀ z, thn (f (le B n w.1) w.2.1 (bC + w.2.2.1.length + 1) (c.length + w.2.2.2.1.length + 1)) (fun z => lpL B n ops f bC c.length fu (z.1, z.2.1, w.2.2.1 ++ [(bC + w.2.2.1.length + 1 + z.2.2.1.length) * 16 + ol] ++ z.2.2.1, w.2.2.2.1 ++ [(39 - ol, c.length + w.2.2.2.1.length + 1 + z.2.2.2.1.length)] ++ z.2.2.2.1, va ol w.2.2.2.2 z.2.2.2.2)) = .inr z → (E (tk B n z.1) ∧ tk B n z.1 ≠ kt) → ∀ q' c', stl l q' c' = (q, c ++ z.2.2.2.1) → PV q' → q'.length + c'.length ≤ z.1 → RUN te d g B n I0 J0 Q 2 z.1 z.2.1 o q' c' := hS
      have hlt := o7 _ ek
      have hle := le_le (B := B) gw.2.1
      have hsl := stl_len (l := l) q' c'
      rw [hst] at hsl
      have hsl1 : q.length + (c ++ w.2.2.2.1).length ≤ q'.length + c'.length := hsl.1
      have hlc : (c ++ w.2.2.2.1).length = c.length + w.2.2.2.1.length := List.length_append
      have hlc1 : (c ++ w.2.2.2.1 ++ [(39 - ol, 0)]).length = c.length + w.2.2.2.1.length + 1 := by rw [List.length_append, hlc]; rfl
      have hi : inn q' = inn q := by
        have := inn_s hl q' c'
        rw [hst] at this
        exact this.symm
      -- the second side
      have go : RUN te d g B n I0 J0 Q 0 (le B n w.1) w.2.1 o ((39 - ol, (c ++ w.2.2.2.1).length) :: q) (c ++ w.2.2.2.1 ++ [(39 - ol, 0)]) := by
        have hi1 : inn ((39 - ol, (c ++ w.2.2.2.1).length) :: q) = inn q := if_neg (by show ¬ 30 ≤ 39 - ol; omega)
        refine hf (le B n w.1) w.2.1 o _ _ (bC + w.2.2.1.length + 1) hnb ⟨PV_c (by show 20 ≤ 39 - ol; omega) (by show 39 - ol ≤ 31; omega) (by show (c ++ w.2.2.2.1).length < 400; omega) c1, by rw [List.length_cons]; omega, hle, gw.2.2.1, c5, fun y => c6 (by rw [← hi1]; exact y)⟩ (by show bnd (39 - ol) < l + 1; rw [o5]; omega) ⟨by rw [hi1]; exact hTE.1, by rw [hi1]; exact hTE.2⟩ ?_ ?_
        · intro e2 he2
          rw [hlc1] at he2
          rw [he2] at hF
          exact hF e2 rfl
        · intro z hz hEz q2 c2' hst2 hV2 hl2
          rw [hlc1] at hz
          rw [hz] at hF hS
          have hz2 := hPf (le B n w.1) w.2.1 (bC + w.2.2.1.length + 1) (c.length + w.2.2.2.1.length + 1) hle z hz
          have hlog := log_P o4 (show w.1 < le B n w.1 by omega) hw hz2
          refine ih _ (by show 400 < fu + z.1; have := hz2.2.2.1; omega) hlog hEz hF hS q2 c2' ?_ hV2 hl2
          rw [stl_2 (show l ≤ l + 1 by omega), hst2]
          show stl l ((39 - ol, (c ++ w.2.2.2.1).length) :: q) (c ++ w.2.2.2.1 ++ [(39 - ol, 0)] ++ z.2.2.2.1) = _
          have sm := set_mid (39 - ol, 0) (39 - ol, (c ++ w.2.2.2.1 ++ [(39 - ol, 0)] ++ z.2.2.2.1).length) z.2.2.2.1 (c ++ w.2.2.2.1)
          rw [stl_c, if_neg (by show ¬ bnd (39 - ol) < l; rw [o5]; omega), if_pos (show (39 - ol = 28 ∨ 39 - ol = 29) from o6), stl_T hTB]
          show (q, (c ++ w.2.2.2.1 ++ [(39 - ol, 0)] ++ z.2.2.2.1).set (c ++ w.2.2.2.1).length (((c ++ w.2.2.2.1 ++ [(39 - ol, 0)] ++ z.2.2.2.1).getD (c ++ w.2.2.2.1).length (0, 0)).1, (c ++ w.2.2.2.1 ++ [(39 - ol, 0)] ++ z.2.2.2.1).length)) = (q, c ++ (w.2.2.2.1 ++ [(39 - ol, c.length + w.2.2.2.1.length + 1 + z.2.2.2.1.length)] ++ z.2.2.2.1))
          have hL4 : (c ++ w.2.2.2.1 ++ [((39 - ol, 0) : Nat × Nat)] ++ z.2.2.2.1).length = c.length + w.2.2.2.1.length + 1 + z.2.2.2.1.length := by rw [List.length_append, hlc1]
          rw [sm.2, sm.1, hL4]
          simp only [List.append_assoc]
      refine run2 hg hT ⟨hV', hl', gw.2.1, gw.2.2.1, c5, fun y => c6 (by rw [← hi]; exact y)⟩ ?_ ?_ ?_ ?_ ?_
      · intro y
        rcases hk with ⟨w1, w2, w3, w4⟩ | ⟨w1, w2, w3, w4⟩
        · rw [w3] at hst
          rw [hst]
          rw [w2] at go
          exact go
        · exact absurd y (hEk _ w3 hE)
      · intro y
        rcases hk with ⟨w1, w2, w3, w4⟩ | ⟨w1, w2, w3, w4⟩
        · omega
        · rw [w3] at hst
          rw [hst]
          rw [w2] at go
          exact go
      · intro y1 y2; omega
      · intro y1 y2; omega
      · intro y1 y2; omega
  refine hf p lv o q c bC hnb ⟨c1, c2, c3, c4, c5, c6⟩ (TB_le (by omega) hTB) hTE ?_ ?_
  · intro e he
    rw [he] at hF
    exact hF e rfl
  · intro w hw hEw q' c' hst hV' hl'
    rw [hw] at hF hS
    have hgw := hPf p lv bC c.length c3 w hw
    refine loop 400 w (by have := hgw.2.2.1; omega) hgw hEw hF hS q' c' ?_ hV' hl'
    rw [stl_2 (show l ≤ l + 1 by omega), hst]
    exact stl_T hTB
theorem test_R (hg : Geo g) (hT : TP B n I0 J0) {nb : Nat} {fS fT : aF} (hP : nb ≠ 0 → PP n 0 fS) (hPT : nb ≠ 0 → PP n 1 fT) (hS : REFA te d g B n I0 J0 Q nb 5 ES (pSum B n nb fS)) (hTT : nb ≠ 0 → REFT te d g B n I0 J0 Q (nb - 1) 1 EO fT) : REFT te d g B n I0 J0 Q nb 1 EO (pTest B n nb fS fT) := by
  have hB := hT.1
  have h1 := plain_R hg hT hP hPT hS hTT
  have h2 : REFT te d g B n I0 J0 Q nb 2 EA (pBoth B n nb fS fT) := loopL_R (kt := 275) (ol := 11) (l := 2) hg hT (plain_P hB hP hPT) (Or.inl ⟨rfl, rfl, rfl, rfl⟩) (fun t h => by cases h) h1
  exact loopL_R (kt := 274) (ol := 10) (l := 1) hg hT (both_P hB hP hPT) (Or.inr ⟨rfl, rfl, rfl, rfl⟩) (fun t _ h => h.2) h2
theorem all_R (hg : Geo g) (hT : TP B n I0 J0) : ∀ nb, REFA te d g B n I0 J0 Q nb 5 ES (pAll B n nb).1 ∧ REFT te d g B n I0 J0 Q nb 1 EO (pAll B n nb).2 := by
  have hB := hT.1
  intro nb
  induction nb with
  | zero =>
    have h1 : REFA te d g B n I0 J0 Q 0 5 ES (pAll B n 0).1 := sum_R hg hT (fun z => absurd rfl z) (fun z => absurd rfl z)
    exact ⟨h1, test_R hg hT (fun z => absurd rfl z) (fun z => absurd rfl z) h1 (fun z => absurd rfl z)⟩
  | succ nb ih =>
    have hp := all_P (n := n) hB nb
    have h1 : REFA te d g B n I0 J0 Q (nb + 1) 5 ES (pAll B n (nb + 1)).1 := sum_R hg hT (fun _ => hp.1) (fun _ => ih.1)
    exact ⟨h1, test_R hg hT (fun _ => hp.1) (fun _ => hp.2) h1 (fun _ => ih.2)⟩
/-- between expressions -/
def RE (B : Nat → Nat) (n : Nat) (I0 : Nat → Nat → Int32) (J0 : Nat → Nat → Int64) (p lv : Nat) (c : List (Nat × Nat)) (I : Nat → Nat → Int32) (J : Nat → Nat → Int64) : Prop := RA B n p I J ∧ XE I0 I ∧ XNJ J0 J ∧ I 89 14 = nI 0 ∧ I 89 13 = I0 89 13 ∧ I 89 20 = nI lv ∧ I 89 17 = nI c.length ∧ cdh c (I 96) (I 97)
def BE (I0 : Nat → Nat → Int32) (J0 : Nat → Nat → Int64) (f : Nat) (I : Nat → Nat → Int32) (J : Nat → Nat → Int64) : Prop := XE I0 I ∧ XNJ J0 J ∧ I 89 14 = nI 1 ∧ I 89 13 = nI f
noncomputable def pEx (B : Nat → Nat) (n : Nat) (te : Bool) : aF := if te = true then (pAll B n 8).2 else (pAll B n 8).1
theorem c_readExpr (hg : Geo g) (hT : TP B n I0 J0) {I : Nat → Nat → Int32} {J : Nat → Nat → Int64} {p lv bC : Nat} {c : List (Nat × Nat)} (hp : p ≤ n) (hlv : lv ≤ 50) (hc : c.length ≤ p) (hX : RE B n I0 J0 p lv c I J) (h0 : ∀ e, pEx B n te p lv bC c.length = .inl e → ∀ I' J', BE I0 J0 e I' J' → Q none (g, I', J')) (h1 : ∀ w, pEx B n te p lv bC c.length = .inr w → ∀ I' J', RE B n I0 J0 w.1 w.2.1 (c ++ w.2.2.2.1) I' J' → Q none (g, I', J')) : a_call aTab aMX (d + 7) m_Mo_readExpression [.ref 89, .int (bi te)] (g, I, J) Q := by
  have hB := hT.1
  have hn := hT.2.1
  have hX0 : RX B n I0 J0 p lv 0 [] c (u2 (u2 I 89 23 (nI 0)) 89 24 (nI 0)) J := by
    obtain ⟨⟨a1, a2, a3, a4⟩, y2, y3, y4, y5, y6, y7, y8⟩ := hX
    have f : ∀ k, k ≠ 23 → k ≠ 24 → u2 (u2 I 89 23 (nI 0)) 89 24 (nI 0) 89 k = I 89 k := fun k h1 h2 => by rw [u2_k h2, u2_k h1]
    exact ⟨⟨by rw [f 9 (by decide) (by decide)]; exact a1, by rw [f 10 (by decide) (by decide)]; exact a2, by rw [f 11 (by decide) (by decide)]; exact a3, a4⟩, XE_u (XE_u y2 (by omega)) (by omega), y3, by rw [f 14 (by decide) (by decide)]; exact y4, by rw [f 13 (by decide) (by decide)]; exact y5, by rw [f 20 (by decide) (by decide)]; exact y6, u2_s, by rw [u2_k (by decide), u2_s]; rfl, trivial, by rw [f 17 (by decide) (by decide)]; exact y7, by rw [u2_r (by decide), u2_r (by decide), u2_r (by decide), u2_r (by decide)]; exact y8⟩
  have fai : ∀ e, pEx B n te p lv bC c.length = .inl e → FAI te d g I0 J0 Q e := by
    intro e he q2 c2 I2 J2 hBX hV hl t
    rw [b_Mo_readExpression_20 hg, hBX.2.2.1, if_neg (by decide), b_Mo_readExpression_76 hg]
    refine c_settleC hg (by decide) hBX.2.2.2.2 hV hl ?_
    intro I3 k1 k2
    simp only [exV, true_and]
    rw [b_Mo_readExpression_81]
    refine h0 e he I3 J2 ⟨XE_t hBX.1 (XS_E k1), hBX.2.1, ?_, ?_⟩
    · rw [k1 89 14 (by omega) (by omega)]; exact hBX.2.2.1
    · rw [k1 89 13 (by omega) (by omega)]; exact hBX.2.2.2.1
  have fin : ∀ w, pEx B n te p lv bC c.length = .inr w → ∀ o q' c', stl 1 q' c' = ([], c ++ w.2.2.2.1) → PV q' → q'.length + c'.length ≤ 400 → RUN te d g B n I0 J0 Q 4 w.1 w.2.1 o q' c' := by
    intro w hw o q' c' hst hV' hl' I2 J2 hX2
    rw [b_Mo_readExpression_20 hg, hX2.2.2.2.1, if_pos rfl, b_Mo_readExpression_27, if_pos rfl, b_Mo_readExpression_76 hg]
    refine c_settleC hg (by decide) hX2.2.2.2.2.2.2.2 hV' hl' ?_
    intro I3 k1 k2
    simp only [exV, true_and]
    rw [b_Mo_readExpression_81]
    rw [hst] at k2
    have X3 := RX_S hX2 k1 k2
    exact h1 w hw I3 J2 ⟨X3.1, X3.2.1, X3.2.2.1, X3.2.2.2.1, X3.2.2.2.2.1, X3.2.2.2.2.2.1, k2.2.2.1, k2.2.2.2⟩
  have hall := all_R (te := te) (d := d) (Q := Q) hg hT 8
  have hpp := all_P (n := n) hB 8
  have hcnd : CND n p lv 0 [] c := ⟨fun x hx => (by cases hx), (by show 0 + c.length ≤ p; omega), hp, hlv, by omega, fun z => absurd rfl z⟩
  rw [e_Mo_readExpression, b_Mo_readExpression_0 hg]
  cases te
  · rw [if_pos bi_F, b_Mo_readExpression_18, b_Mo_readExpression_19]
    refine hall.1 p lv 0 [] c bC rfl hcnd trivial fai ?_ 1 (Or.inl rfl) _ J hX0
    intro w hw hE q' c' hst hV' hl'
    have gw := GP_len (hpp.1 p lv bC c.length hp w hw)
    have hi : inn q' = none := by
      have := inn_s (l := 5) (by decide) q' c'
      rw [hst] at this
      exact this.symm
    have hst1 : stl 1 q' c' = ([], c ++ w.2.2.2.1) := by
      rw [stl_2 (show 1 ≤ 5 by decide), hst]; rfl
    refine run3 hg hT ⟨hV', hl', gw.2.1, gw.2.2.1, by omega, fun z => absurd hi z⟩ ?_ ?_ ?_ ?_ ?_ ?_ ?_
    · rintro o' (y | y)
      · rw [hE.2] at y; cases y
      · rw [hE.1.2] at y; cases y
    · intro _ _ y; rw [hi] at y; cases y
    · intro _ _ y; rw [hi] at y; cases y
    · intro _ _ _ _
      exact fin w hw 0 q' c' hst1 hV' (by omega)
    · intro _ _ _ y; exact absurd ⟨hi, rfl⟩ y
    · intro _ _ _ y; exact absurd ⟨hi, rfl⟩ y
    · intro _ _ _ y; exact absurd ⟨hi, rfl⟩ y
  · rw [if_neg (by decide), b_Mo_readExpression_14, b_Mo_readExpression_19]
    refine hall.2 p lv 0 [] c bC rfl hcnd trivial ⟨by show none ≠ some 31; decide, fun z => by cases z.2⟩ fai ?_ _ J hX0
    intro w hw hE q' c' hst hV' hl'
    have gw := GP_len (hpp.2 p lv bC c.length hp w hw)
    have hi : inn q' = none := by
      have := inn_s (l := 1) (by decide) q' c'
      rw [hst] at this
      exact this.symm
    refine run2 hg hT ⟨hV', hl', gw.2.1, gw.2.2.1, by omega, fun z => absurd hi z⟩ (fun y => absurd y hE.1.2) (fun y => absurd y hE.2) ?_ ?_ ?_
    · intro _ _ _
      exact fin w hw 0 q' c' hst hV' (by omega)
    · intro _ _ y; exact absurd hi y
    · intro _ _ y; exact absurd hi y
end RUN3
