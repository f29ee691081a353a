/-! ===== what a text says, read from left to right ===== -/
abbrev aS : Type := Nat × Nat × List Nat × List (Nat × Nat) × aV
abbrev aF : Type := Nat → Nat → Nat → Nat → Nat ⊕ aS
def thn (r : Nat ⊕ aS) (k : aS → Nat ⊕ aS) : Nat ⊕ aS := match r with
  | .inl q => .inl q
  | .inr w => k w
noncomputable def pLeaf (B : Nat → Nat) (n p lv : Nat) : Nat ⊕ aS :=
  if lv < 50 then
    (if tk B n p = 257 ∧ nv B n p ≤ 1000 then .inr (le B n p, lv + 1, [nv B n p * 16 + 0], [(0, nv B n p)], fun _ => some (nv B n p : Int))
    else if 259 ≤ tk B n p ∧ tk B n p ≤ 266 then .inr (le B n p, lv + 1, [(tk B n p - 259) * 16 + 1], [(tk B n p - 259 + 1, 0)], fun E => some (E (tk B n p - 259)))
    else .inl (ls B n p))
  else .inl (ls B n p)
noncomputable def pIn (B : Nat → Nat) (n : Nat) (f : aF) (cl p lv bC bR : Nat) : Nat ⊕ aS := thn (f (le B n p) lv bC bR) (fun w => if tk B n w.1 = cl then .inr (le B n w.1, w.2) else .inl (ls B n w.1))
noncomputable def pPart (B : Nat → Nat) (n nb : Nat) (fS : aF) : aF := fun p lv bC bR => if tk B n p = 91 then (if nb = 0 then .inl (ls B n p) else pIn B n fS 93 p lv bC bR) else pLeaf B n p lv
noncomputable def lpA (B : Nat → Nat) (n : Nat) (ops : Nat → Option Nat) (f : aF) (bC bR : Nat) : Nat → aS → Nat ⊕ aS
  | 0, w => .inr w
  | k + 1, w => match ops (tk B n w.1) with
    | none => .inr w
    | some o => thn (f (le B n w.1) w.2.1 (bC + w.2.2.1.length) (bR + w.2.2.2.1.length)) (fun z => lpA B n ops f bC bR k (z.1, z.2.1, w.2.2.1 ++ z.2.2.1 ++ [o], w.2.2.2.1 ++ z.2.2.2.1 ++ [(o + 18, 0)], v2 o w.2.2.2.2 z.2.2.2.2))
noncomputable def lpL (B : Nat → Nat) (n : Nat) (ops : Nat → Option Nat) (f : aF) (bC bR : Nat) : Nat → aS → Nat ⊕ aS
  | 0, w => .inr w
  | k + 1, w => match ops (tk B n w.1) with
    | none => .inr w
    | some o => thn (f (le B n w.1) w.2.1 (bC + w.2.2.1.length + 1) (bR + w.2.2.2.1.length + 1)) (fun z => lpL B n ops f bC bR k (z.1, z.2.1, w.2.2.1 ++ [(bC + w.2.2.1.length + 1 + z.2.2.1.length) * 16 + o] ++ z.2.2.1, w.2.2.2.1 ++ [(39 - o, bR + w.2.2.2.1.length + 1 + z.2.2.2.1.length)] ++ z.2.2.2.1, va o w.2.2.2.2 z.2.2.2.2))
def oT (t : Nat) : Option Nat := if t = 42 then some 4 else if t = 47 then some 5 else none
def oS (t : Nat) : Option Nat := if t = 43 then some 2 else if t = 45 then some 3 else none
def oC (t : Nat) : Option Nat := if t = 60 then some 6 else if t = 62 then some 7 else if t = 61 then some 8 else none
def oA (t : Nat) : Option Nat := if t = 275 then some 11 else none
def oO (t : Nat) : Option Nat := if t = 274 then some 10 else none
noncomputable def pTerm (B : Nat → Nat) (n nb : Nat) (fS : aF) : aF := fun p lv bC bR => thn (pPart B n nb fS p lv bC bR) (lpA B n oT (pPart B n nb fS) bC bR 400)
noncomputable def pSum (B : Nat → Nat) (n nb : Nat) (fS : aF) : aF := fun p lv bC bR => thn (pTerm B n nb fS p lv bC bR) (lpA B n oS (pTerm B n nb fS) bC bR 400)
noncomputable def pCmp (B : Nat → Nat) (n nb : Nat) (fS : aF) : aF := fun p lv bC bR => thn (pSum B n nb fS p lv bC bR) (fun w => match oC (tk B n w.1) with
  | none => .inl (ls B n w.1)
  | some o => thn (pSum B n nb fS (le B n w.1) w.2.1 (bC + w.2.2.1.length) (bR + w.2.2.2.1.length)) (fun z => .inr (z.1, z.2.1, w.2.2.1 ++ z.2.2.1 ++ [o], w.2.2.2.1 ++ z.2.2.2.1 ++ [(o + 18, 0)], v2 o w.2.2.2.2 z.2.2.2.2)))
noncomputable def ntN (B : Nat → Nat) (n : Nat) : Nat → Nat → Nat
  | 0, _ => 0
  | k + 1, p => if tk B n p = 276 then ntN B n k (le B n p) + 1 else 0
noncomputable def ntP (B : Nat → Nat) (n : Nat) : Nat → Nat → Nat
  | 0, p => p
  | k + 1, p => if tk B n p = 276 then ntP B n k (le B n p) else p
noncomputable def pNot (B : Nat → Nat) (n nb : Nat) (fS fT : aF) : aF := fun p lv bC bR => if tk B n p = 40 then (if nb = 0 then .inl (ls B n p) else pIn B n fT 41 p lv bC bR) else pCmp B n nb fS p lv bC bR
def ngs (m : Nat) (w : aS) : aS := if m % 2 = 1 then (w.1, w.2.1, w.2.2.1 ++ [9], w.2.2.2.1 ++ List.replicate m (27, 0), vn w.2.2.2.2) else (w.1, w.2.1, w.2.2.1, w.2.2.2.1 ++ List.replicate m (27, 0), w.2.2.2.2)
noncomputable def pPlain (B : Nat → Nat) (n nb : Nat) (fS fT : aF) : aF := fun p lv bC bR => thn (pNot B n nb fS fT (ntP B n 400 p) lv bC bR) (fun w => .inr (ngs (ntN B n 400 p) w))
noncomputable def pBoth (B : Nat → Nat) (n nb : Nat) (fS fT : aF) : aF := fun p lv bC bR => thn (pPlain B n nb fS fT p lv bC bR) (lpL B n oA (pPlain B n nb fS fT) bC bR 400)
noncomputable def pTest (B : Nat → Nat) (n nb : Nat) (fS fT : aF) : aF := fun p lv bC bR => thn (pBoth B n nb fS fT p lv bC bR) (lpL B n oO (pBoth B n nb fS fT) bC bR 400)
noncomputable def pAll (B : Nat → Nat) (n : Nat) : Nat → aF × aF
  | 0 => (pSum B n 0 (fun _ _ _ _ => .inl 0), pTest B n 0 (fun _ _ _ _ => .inl 0) (fun _ _ _ _ => .inl 0))
  | nb + 1 => (pSum B n (nb + 1) (pAll B n nb).1, pTest B n (nb + 1) (pAll B n nb).1 (pAll B n nb).2)
/-! the codes -/
theorem gapp {α : Type} (L M : List α) (i : Nat) (d : α) : (L ++ M).getD i d = if i < L.length then L.getD i d else M.getD (i - L.length) d := by
  rw [List.getD_eq_getElem?_getD, List.getElem?_append]
  split <;> rw [List.getD_eq_getElem?_getD]
def hC (C : List Nat) (b : Nat) (cC : Nat → Int32) : Prop := ∀ i, i < C.length → cC (b + i) = nI (C.getD i 0)
def hR (R : List (Nat × Nat)) (b : Nat) (cR : Nat → Int32) : Prop := ∀ i, i < R.length → cR (2 * (b + i)) = nI (R.getD i (0, 0)).1 ∧ cR (2 * (b + i) + 1) = nI (R.getD i (0, 0)).2
theorem hC_app {C D : List Nat} {b : Nat} {cC : Nat → Int32} : hC (C ++ D) b cC ↔ hC C b cC ∧ hC D (b + C.length) cC := by
  unfold hC
  constructor
  · intro h
    refine ⟨fun i hi => ?_, fun i hi => ?_⟩
    · have := h i (by rw [List.length_append]; omega)
      rw [gapp, if_pos hi] at this
      exact this
    · have := h (C.length + i) (by rw [List.length_append]; omega)
      rw [gapp, if_neg (by omega), show C.length + i - C.length = i by omega, ← Nat.add_assoc] at this
      exact this
  · rintro ⟨h1, h2⟩ i hi
    rw [List.length_append] at hi
    rw [gapp]
    by_cases q : i < C.length
    · rw [if_pos q]; exact h1 i q
    · rw [if_neg q]
      have := h2 (i - C.length) (by omega)
      rw [show b + C.length + (i - C.length) = b + i by omega] at this
      exact this
theorem hR_app {C D : List (Nat × Nat)} {b : Nat} {cR : Nat → Int32} : hR (C ++ D) b cR ↔ hR C b cR ∧ hR D (b + C.length) cR := by
  unfold hR
  constructor
  · intro h
    refine ⟨fun i hi => ?_, fun i hi => ?_⟩
    · have := h i (by rw [List.length_append]; omega)
      rw [gapp, if_pos hi] at this
      exact this
    · have := h (C.length + i) (by rw [List.length_append]; omega)
      rw [gapp, if_neg (by omega), show C.length + i - C.length = i by omega, ← Nat.add_assoc] at this
      exact this
  · rintro ⟨h1, h2⟩ i hi
    rw [List.length_append] at hi
    rw [gapp]
    by_cases q : i < C.length
    · rw [if_pos q]; exact h1 i q
    · rw [if_neg q]
      have := h2 (i - C.length) (by omega)
      rw [show b + C.length + (i - C.length) = b + i by omega] at this
      exact this
theorem hC_1 {x b : Nat} {cC : Nat → Int32} : hC [x] b cC ↔ cC b = nI x := by
  constructor
  · intro h
    exact h 0 (Nat.lt_succ_self 0)
  · intro h i hi
    have hi : i < 1 := hi
    rw [show i = 0 by omega]
    exact h
theorem hR_1 {x : Nat × Nat} {b : Nat} {cR : Nat → Int32} : hR [x] b cR ↔ cR (2 * b) = nI x.1 ∧ cR (2 * b + 1) = nI x.2 := by
  constructor
  · intro h
    exact h 0 (Nat.lt_succ_self 0)
  · intro h i hi
    have hi : i < 1 := hi
    rw [show i = 0 by omega]
    exact h
theorem hR_rep {m b : Nat} {cR : Nat → Int32} (h : hR (List.replicate m (27, 0)) b cR) : ∀ i, i < m → cR (2 * (b + i)) = nI 27 := by
  intro i hi
  have := (h i (by rw [List.length_replicate]; exact hi)).1
  rw [List.getD_eq_getElem?_getD, List.getElem?_replicate, if_pos hi] at this
  exact this
/-! what is known of a part that was read -/
def GPs (n k bC bR p lv : Nat) (w : aS) : Prop := p + w.2.2.1.length ≤ w.1 ∧ p + w.2.2.2.1.length ≤ w.1 ∧ p < w.1 ∧ w.1 ≤ n ∧ lv < w.2.1 ∧ w.2.1 ≤ 50 ∧ ∀ cC cR, hC w.2.2.1 bC cC → hR w.2.2.2.1 bR cR → Der cC cR k bR (bR + w.2.2.2.1.length) bC (bC + w.2.2.1.length) (w.2.1 - lv) w.2.2.2.2
def GPx (n k bC bR p lv : Nat) (r : Nat ⊕ aS) : Prop := ∀ w, r = .inr w → GPs n k bC bR p lv w
def PP (n k : Nat) (f : aF) : Prop := ∀ p lv bC bR, p ≤ n → GPx n k bC bR p lv (f p lv bC bR)
theorem GP_l {n k bC bR p lv q : Nat} : GPx n k bC bR p lv (.inl q) := fun w h => by cases h
theorem GP_thn {n k k' bC bR bC' bR' p lv p' lv' : Nat} {r : Nat ⊕ aS} {c : aS → Nat ⊕ aS} (h : GPx n k bC bR p lv r) (hc : ∀ w, r = .inr w → GPs n k bC bR p lv w → GPx n k' bC' bR' p' lv' (c w)) : GPx n k' bC' bR' p' lv' (thn r c) := by
  cases r with
  | inl q => exact GP_l
  | inr w => exact hc w rfl (h w rfl)
section PRS
variable {B : Nat → Nat} {n : Nat}
theorem tk_ne {p t : Nat} (h : ∀ i, B i ≤ 255) (e : tk B n p = t) (ht : t ≠ 256) : p < le B n p := (le_gt h (by rw [e]; exact ht)).1
theorem leaf_P (h : ∀ i, B i ≤ 255) {p lv bC bR : Nat} (hp : p ≤ n) : GPx n 0 bC bR p lv (pLeaf B n p lv) := by
  intro w hw
  unfold pLeaf at hw
  have hl := le_le (B := B) hp
  by_cases q : lv < 50
  · rw [if_pos q] at hw
    by_cases q1 : tk B n p = 257 ∧ nv B n p ≤ 1000
    · rw [if_pos q1] at hw
      cases hw
      have := tk_ne h q1.1 (by decide)
      refine ⟨this, this, this, hl, by show lv < lv + 1; omega, by show lv + 1 ≤ 50; omega, fun cC cR h1 h2 => ?_⟩
      have h1 := hC_1.1 h1
      have h2 := hR_1.1 h2
      show Der cC cR 0 bR (bR + 1) bC (bC + 1) (lv + 1 - lv) _
      rw [show lv + 1 - lv = 1 by omega]
      exact fun P hP => hP.1 bR bC (nv B n p) q1.2 h2.1 h2.2 h1
    · rw [if_neg q1] at hw
      by_cases q2 : 259 ≤ tk B n p ∧ tk B n p ≤ 266
      · rw [if_pos q2] at hw
        cases hw
        have := tk_ne h rfl (show tk B n p ≠ 256 by omega)
        refine ⟨this, this, this, hl, by show lv < lv + 1; omega, by show lv + 1 ≤ 50; omega, fun cC cR h1 h2 => ?_⟩
        have h1 := hC_1.1 h1
        have h2 := hR_1.1 h2
        show Der cC cR 0 bR (bR + 1) bC (bC + 1) (lv + 1 - lv) _
        rw [show lv + 1 - lv = 1 by omega]
        exact fun P hP => hP.2.1 bR bC (tk B n p - 259) (by omega) h2.1 h1
      · rw [if_neg q2] at hw; cases hw
  · rw [if_neg q] at hw; cases hw
theorem in_P (h : ∀ i, B i ≤ 255) {k cl p lv bC bR t : Nat} {f : aF} (hf : PP n k f) (hp : p ≤ n) (ht : tk B n p = t) (ht2 : t ≠ 256) (hcl : cl ≠ 256) : GPx n k bC bR p lv (pIn B n f cl p lv bC bR) := by
  have h1 := tk_ne h ht ht2
  have h2 := le_le (B := B) hp
  refine GP_thn (hf (le B n p) lv bC bR h2) (fun w hw hg => ?_)
  by_cases q : tk B n w.1 = cl
  · rw [if_pos q]
    intro z hz
    cases hz
    obtain ⟨a1, a2, a3, a4, a5, a6, a7⟩ := hg
    have h3 := tk_ne h q hcl
    have h4 := le_le (B := B) a4
    exact ⟨by show p + w.2.2.1.length ≤ le B n w.1; omega, by show p + w.2.2.2.1.length ≤ le B n w.1; omega, by show p < le B n w.1; omega, h4, a5, a6, a7⟩
  · rw [if_neg q]; exact GP_l
theorem part_P (h : ∀ i, B i ≤ 255) {nb : Nat} {fS : aF} (hf : nb ≠ 0 → PP n 0 fS) : PP n 0 (pPart B n nb fS) := by
  intro p lv bC bR hp
  unfold pPart
  by_cases q : tk B n p = 91
  · rw [if_pos q]
    by_cases q2 : nb = 0
    · rw [if_pos q2]; exact GP_l
    · rw [if_neg q2]; exact in_P h (hf q2) hp q (by decide) (by decide)
  · rw [if_neg q]; exact leaf_P h hp
theorem bin_P {k o p1 bC bR p lv : Nat} {w z : aS} (ho : 2 ≤ o) (ho8 : o ≤ 8) (hk : k = if o ≤ 5 then 0 else 1) (h1 : w.1 < p1) (hw : GPs n 0 bC bR p lv w) (hz : GPs n 0 (bC + w.2.2.1.length) (bR + w.2.2.2.1.length) p1 w.2.1 z) : GPs n k bC bR p lv (z.1, z.2.1, w.2.2.1 ++ z.2.2.1 ++ [o], w.2.2.2.1 ++ z.2.2.2.1 ++ [(o + 18, 0)], v2 o w.2.2.2.2 z.2.2.2.2) := by
  obtain ⟨a1, a2, a3, a4, a5, a6, a7⟩ := hw
  obtain ⟨b1, b2, b3, b4, b5, b6, b7⟩ := hz
  have e1 : (w.2.2.1 ++ z.2.2.1 ++ [o]).length = w.2.2.1.length + z.2.2.1.length + 1 := by rw [List.length_append, List.length_append]; rfl
  have e2 : (w.2.2.2.1 ++ z.2.2.2.1 ++ [(o + 18, 0)]).length = w.2.2.2.1.length + z.2.2.2.1.length + 1 := by rw [List.length_append, List.length_append]; rfl
  refine ⟨?_, ?_, by show p < z.1; omega, b4, by show lv < z.2.1; omega, b6, fun cC cR g1 g2 => ?_⟩
  · show p + (w.2.2.1 ++ z.2.2.1 ++ [o]).length ≤ z.1
    omega
  · show p + (w.2.2.2.1 ++ z.2.2.2.1 ++ [(o + 18, 0)]).length ≤ z.1
    omega
  · obtain ⟨g1, g3⟩ := hC_app.1 g1
    obtain ⟨g1, g4⟩ := hC_app.1 g1
    obtain ⟨g2, g5⟩ := hR_app.1 g2
    obtain ⟨g2, g6⟩ := hR_app.1 g2
    have g3 := hC_1.1 g3
    have g5 := hR_1.1 g5
    have d1 := a7 cC cR g1 g2
    have d2 := b7 cC cR g4 g6
    show Der cC cR k bR (bR + (w.2.2.2.1 ++ z.2.2.2.1 ++ [(o + 18, 0)]).length) bC (bC + (w.2.2.1 ++ z.2.2.1 ++ [o]).length) (z.2.1 - lv) _
    rw [List.length_append, ← Nat.add_assoc] at g3
    have g5 := g5.1
    rw [List.length_append, ← Nat.add_assoc] at g5
    rw [e1, e2, show bR + (w.2.2.2.1.length + z.2.2.2.1.length + 1) = bR + w.2.2.2.1.length + z.2.2.2.1.length + 1 by omega, show bC + (w.2.2.1.length + z.2.2.1.length + 1) = bC + w.2.2.1.length + z.2.2.1.length + 1 by omega, show z.2.1 - lv = (w.2.1 - lv) + (z.2.1 - w.2.1) by omega]
    exact fun P hP => hP.2.2.1 o k bR (bR + w.2.2.2.1.length) (bR + w.2.2.2.1.length + z.2.2.2.1.length) bC (bC + w.2.2.1.length) (bC + w.2.2.1.length + z.2.2.1.length) _ _ _ _ ho ho8 hk (d1 P hP) (d2 P hP) g5 g3
theorem lpA_P (h : ∀ i, B i ≤ 255) {ops : Nat → Option Nat} {f : aF} {bC bR p lv : Nat} (ho : ∀ t o, ops t = some o → 2 ≤ o ∧ o ≤ 5 ∧ t ≠ 256) (hf : PP n 0 f) : ∀ k w, GPs n 0 bC bR p lv w → GPx n 0 bC bR p lv (lpA B n ops f bC bR k w)
  | 0, w, hw => fun z hz => by cases hz; exact hw
  | k + 1, w, hw => by
    unfold lpA
    cases e : ops (tk B n w.1) with
    | none => exact fun z hz => by cases hz; exact hw
    | some o =>
      have e1 := ho _ _ e
      refine GP_thn (hf (le B n w.1) w.2.1 _ _ (le_le hw.2.2.2.1)) (fun z hz hg => ?_)
      exact lpA_P h ho hf k _ (bin_P e1.1 (by omega) (by rw [if_pos e1.2.1]) (tk_ne h rfl e1.2.2) hw hg)
theorem oT_o {t o : Nat} (h : oT t = some o) : 2 ≤ o ∧ o ≤ 5 ∧ t ≠ 256 := by
  unfold oT at h
  split at h
  · cases h; exact ⟨by decide, by decide, by omega⟩
  · split at h
    · cases h; exact ⟨by decide, by decide, by omega⟩
    · cases h
theorem oS_o {t o : Nat} (h : oS t = some o) : 2 ≤ o ∧ o ≤ 5 ∧ t ≠ 256 := by
  unfold oS at h
  split at h
  · cases h; exact ⟨by decide, by decide, by omega⟩
  · split at h
    · cases h; exact ⟨by decide, by decide, by omega⟩
    · cases h
theorem oC_o {t o : Nat} (h : oC t = some o) : 6 ≤ o ∧ o ≤ 8 ∧ t ≠ 256 := by
  unfold oC at h
  split at h
  · cases h; exact ⟨by decide, by decide, by omega⟩
  · split at h
    · cases h; exact ⟨by decide, by decide, by omega⟩
    · split at h
      · cases h; exact ⟨by decide, by decide, by omega⟩
      · cases h
theorem oA_o {t o : Nat} (h : oA t = some o) : o = 11 ∧ t = 275 := by
  unfold oA at h
  split at h
  · cases h; exact ⟨rfl, by omega⟩
  · cases h
theorem oO_o {t o : Nat} (h : oO t = some o) : o = 10 ∧ t = 274 := by
  unfold oO at h
  split at h
  · cases h; exact ⟨rfl, by omega⟩
  · cases h
theorem term_P (h : ∀ i, B i ≤ 255) {nb : Nat} {fS : aF} (hf : nb ≠ 0 → PP n 0 fS) : PP n 0 (pTerm B n nb fS) := fun p lv bC bR hp => GP_thn (part_P h hf p lv bC bR hp) (fun w _ hg => lpA_P h (fun _ _ => oT_o) (part_P h hf) 400 w hg)
theorem sum_P (h : ∀ i, B i ≤ 255) {nb : Nat} {fS : aF} (hf : nb ≠ 0 → PP n 0 fS) : PP n 0 (pSum B n nb fS) := fun p lv bC bR hp => GP_thn (term_P h hf p lv bC bR hp) (fun w _ hg => lpA_P h (fun _ _ => oS_o) (term_P h hf) 400 w hg)
theorem cmp_P (h : ∀ i, B i ≤ 255) {nb : Nat} {fS : aF} (hf : nb ≠ 0 → PP n 0 fS) : PP n 1 (pCmp B n nb fS) := by
  intro p lv bC bR hp
  refine GP_thn (sum_P h hf p lv bC bR hp) (fun w _ hw => ?_)
  show GPx n 1 bC bR p lv (match oC (tk B n w.1) with
    | none => .inl (ls B n w.1)
    | some o => thn (pSum B n nb fS (le B n w.1) w.2.1 (bC + w.2.2.1.length) (bR + w.2.2.2.1.length)) (fun z => .inr (z.1, z.2.1, w.2.2.1 ++ z.2.2.1 ++ [o], w.2.2.2.1 ++ z.2.2.2.1 ++ [(o + 18, 0)], v2 o w.2.2.2.2 z.2.2.2.2)))
  cases e : oC (tk B n w.1) with
  | none => exact GP_l
  | some o =>
    have e1 := oC_o e
    refine GP_thn (sum_P h hf (le B n w.1) w.2.1 _ _ (le_le hw.2.2.2.1)) (fun z _ hg => ?_)
    intro y hy
    cases hy
    exact bin_P (by omega) e1.2.1 (by rw [if_neg (by omega)]) (tk_ne h rfl e1.2.2) hw hg
theorem nt_le (h : ∀ i, B i ≤ 255) : ∀ k p, p ≤ n → p + ntN B n k p ≤ ntP B n k p ∧ ntP B n k p ≤ n
  | 0, p, hp => ⟨Nat.le_refl _, hp⟩
  | k + 1, p, hp => by
    unfold ntN ntP
    by_cases q : tk B n p = 276
    · rw [if_pos q, if_pos q]
      have h1 := tk_ne h q (by decide)
      have ih := nt_le h k (le B n p) (le_le hp)
      omega
    · rw [if_neg q, if_neg q]; exact ⟨Nat.le_refl _, hp⟩
theorem Der_pair {cC cR : Nat → Int32} {a b a' b' m : Nat} {v : aV} (h : Der cC cR 1 a b a' b' m v) : ∀ j, (∀ i, i < 2 * j → cR (2 * (b + i)) = nI 27) → Der cC cR 1 a (b + 2 * j) a' b' m v
  | 0, _ => h
  | j + 1, hr => by
    have ih := Der_pair h j (fun i hi => hr i (by omega))
    have r1 := hr (2 * j) (by omega)
    have r2 := hr (2 * j + 1) (by omega)
    exact fun P hP => hP.2.2.2.2.1 a (b + 2 * j) a' b' m v (ih P hP) r1 r2
theorem ngs_P {m p q lv bC bR : Nat} {w : aS} (hm : p + m ≤ q) (hw : GPs n 1 bC bR q lv w) : GPs n 1 bC bR p lv (ngs m w) := by
  obtain ⟨a1, a2, a3, a4, a5, a6, a7⟩ := hw
  have er : (w.2.2.2.1 ++ List.replicate m ((27, 0) : Nat × Nat)).length = w.2.2.2.1.length + m := by rw [List.length_append, List.length_replicate]
  unfold ngs
  by_cases q1 : m % 2 = 1
  · rw [if_pos q1]
    have ec : (w.2.2.1 ++ [9]).length = w.2.2.1.length + 1 := by rw [List.length_append]; rfl
    refine ⟨by show p + (w.2.2.1 ++ [9]).length ≤ w.1; omega, by show p + (w.2.2.2.1 ++ List.replicate m (27, 0)).length ≤ w.1; omega, by show p < w.1; omega, a4, a5, a6, fun cC cR g1 g2 => ?_⟩
    obtain ⟨g1, g3⟩ := hC_app.1 g1
    obtain ⟨g2, g4⟩ := hR_app.1 g2
    have g3 := hC_1.1 g3
    have g4 := hR_rep g4
    have d1 := a7 cC cR g1 g2
    show Der cC cR 1 bR (bR + (w.2.2.2.1 ++ List.replicate m (27, 0)).length) bC (bC + (w.2.2.1 ++ [9]).length) (w.2.1 - lv) (vn w.2.2.2.2)
    rw [er, ec]
    have d2 : Der cC cR 1 bR (bR + w.2.2.2.1.length + 1) bC (bC + w.2.2.1.length + 1) (w.2.1 - lv) (vn w.2.2.2.2) := fun P hP => hP.2.2.2.1 _ _ _ _ _ _ (d1 P hP) (g4 0 (by omega)) g3
    have d3 := Der_pair d2 (m / 2) (fun i hi => by
      have := g4 (1 + i) (by omega)
      rw [← Nat.add_assoc] at this
      exact this)
    rw [show bR + (w.2.2.2.1.length + m) = bR + w.2.2.2.1.length + 1 + 2 * (m / 2) by omega]
    exact d3
  · rw [if_neg q1]
    refine ⟨by show p + w.2.2.1.length ≤ w.1; omega, by show p + (w.2.2.2.1 ++ List.replicate m (27, 0)).length ≤ w.1; omega, by show p < w.1; omega, a4, a5, a6, fun cC cR g1 g2 => ?_⟩
    obtain ⟨g2, g4⟩ := hR_app.1 g2
    have g4 := hR_rep g4
    have d1 := a7 cC cR g1 g2
    show Der cC cR 1 bR (bR + (w.2.2.2.1 ++ List.replicate m (27, 0)).length) bC (bC + w.2.2.1.length) (w.2.1 - lv) w.2.2.2.2
    rw [er]
    have d3 := Der_pair d1 (m / 2) (fun i hi => g4 i (by omega))
    rw [show bR + (w.2.2.2.1.length + m) = bR + w.2.2.2.1.length + 2 * (m / 2) by omega]
    exact d3
theorem not_P (h : ∀ i, B i ≤ 255) {nb : Nat} {fS fT : aF} (hf : nb ≠ 0 → PP n 0 fS) (hT : nb ≠ 0 → PP n 1 fT) : PP n 1 (pNot B n nb fS fT) := by
  intro p lv bC bR hp
  unfold pNot
  by_cases q : tk B n p = 40
  · rw [if_pos q]
    by_cases q2 : nb = 0
    · rw [if_pos q2]; exact GP_l
    · rw [if_neg q2]; exact in_P h (hT q2) hp q (by decide) (by decide)
  · rw [if_neg q]; exact cmp_P h hf p lv bC bR hp
theorem plain_P (h : ∀ i, B i ≤ 255) {nb : Nat} {fS fT : aF} (hf : nb ≠ 0 → PP n 0 fS) (hT : nb ≠ 0 → PP n 1 fT) : PP n 1 (pPlain B n nb fS fT) := by
  intro p lv bC bR hp
  have hn := nt_le h 400 p hp
  refine GP_thn (not_P h hf hT (ntP B n 400 p) lv bC bR hn.2) (fun w _ hw => ?_)
  intro z hz
  cases hz
  exact ngs_P hn.1 hw
theorem log_P {o p1 bC bR p lv : Nat} {w z : aS} (ho : o = 10 ∨ o = 11) (h1 : w.1 < p1) (hw : GPs n 1 bC bR p lv w) (hz : GPs n 1 (bC + w.2.2.1.length + 1) (bR + w.2.2.2.1.length + 1) p1 w.2.1 z) : GPs n 1 bC bR p lv (z.1, z.2.1, w.2.2.1 ++ [(bC + w.2.2.1.length + 1 + z.2.2.1.length) * 16 + o] ++ z.2.2.1, w.2.2.2.1 ++ [(39 - o, bR + w.2.2.2.1.length + 1 + z.2.2.2.1.length)] ++ z.2.2.2.1, va o w.2.2.2.2 z.2.2.2.2) := by
  obtain ⟨a1, a2, a3, a4, a5, a6, a7⟩ := hw
  obtain ⟨b1, b2, b3, b4, b5, b6, b7⟩ := hz
  generalize hX : (bC + w.2.2.1.length + 1 + z.2.2.1.length) * 16 + o = X
  generalize hY : ((39 - o, bR + w.2.2.2.1.length + 1 + z.2.2.2.1.length) : Nat × Nat) = Y
  have e1 : (w.2.2.1 ++ [X] ++ z.2.2.1).length = w.2.2.1.length + 1 + z.2.2.1.length := by rw [List.length_append, List.length_append]; rfl
  have e2 : (w.2.2.2.1 ++ [Y] ++ z.2.2.2.1).length = w.2.2.2.1.length + 1 + z.2.2.2.1.length := by rw [List.length_append, List.length_append]; rfl
  refine ⟨?_, ?_, by show p < z.1; omega, b4, by show lv < z.2.1; omega, b6, fun cC cR g1 g2 => ?_⟩
  · show p + (w.2.2.1 ++ [X] ++ z.2.2.1).length ≤ z.1
    omega
  · show p + (w.2.2.2.1 ++ [Y] ++ z.2.2.2.1).length ≤ z.1
    omega
  · obtain ⟨g1, g4⟩ := hC_app.1 g1
    obtain ⟨g1, g3⟩ := hC_app.1 g1
    obtain ⟨g2, g6⟩ := hR_app.1 g2
    obtain ⟨g2, g5⟩ := hR_app.1 g2
    have g3 := hC_1.1 g3
    have g5 := hR_1.1 g5
    have d1 := a7 cC cR g1 g2
    rw [List.length_append, ← Nat.add_assoc] at g4 g6
    have d2 := b7 cC cR g4 g6
    show Der cC cR 1 bR (bR + (w.2.2.2.1 ++ [Y] ++ z.2.2.2.1).length) bC (bC + (w.2.2.1 ++ [X] ++ z.2.2.1).length) (z.2.1 - lv) _
    rw [e1, e2, show bR + (w.2.2.2.1.length + 1 + z.2.2.2.1.length) = bR + w.2.2.2.1.length + 1 + z.2.2.2.1.length by omega, show bC + (w.2.2.1.length + 1 + z.2.2.1.length) = bC + w.2.2.1.length + 1 + z.2.2.1.length by omega, show z.2.1 - lv = (w.2.1 - lv) + (z.2.1 - w.2.1) by omega]
    rw [← hY] at g5
    rw [← hX] at g3
    exact fun P hP => hP.2.2.2.2.2 o bR (bR + w.2.2.2.1.length) (bR + w.2.2.2.1.length + 1 + z.2.2.2.1.length) bC (bC + w.2.2.1.length) (bC + w.2.2.1.length + 1 + z.2.2.1.length) _ _ _ _ ho (d1 P hP) (d2 P hP) g5.1 g5.2 g3
theorem lpL_P (h : ∀ i, B i ≤ 255) {ops : Nat → Option Nat} {f : aF} {bC bR p lv : Nat} (ho : ∀ t o, ops t = some o → (o = 10 ∨ o = 11) ∧ t ≠ 256) (hf : PP n 1 f) : ∀ k w, GPs n 1 bC bR p lv w → GPx n 1 bC bR p lv (lpL B n ops f bC bR k w)
  | 0, w, hw => fun z hz => by cases hz; exact hw
  | k + 1, w, hw => by
    unfold lpL
    cases e : ops (tk B n w.1) with
    | none => exact fun z hz => by cases hz; exact hw
    | some o =>
      have e1 := ho _ _ e
      refine GP_thn (hf (le B n w.1) w.2.1 _ _ (le_le hw.2.2.2.1)) (fun z hz hg => ?_)
      exact lpL_P h ho hf k _ (log_P e1.1 (tk_ne h rfl e1.2) hw hg)
theorem both_P (h : ∀ i, B i ≤ 255) {nb : Nat} {fS fT : aF} (hf : nb ≠ 0 → PP n 0 fS) (hT : nb ≠ 0 → PP n 1 fT) : PP n 1 (pBoth B n nb fS fT) := fun p lv bC bR hp => GP_thn (plain_P h hf hT p lv bC bR hp) (fun w _ hg => lpL_P h (fun _ _ e => ⟨Or.inr (oA_o e).1, by have := (oA_o e).2; omega⟩) (plain_P h hf hT) 400 w hg)
theorem test_P (h : ∀ i, B i ≤ 255) {nb : Nat} {fS fT : aF} (hf : nb ≠ 0 → PP n 0 fS) (hT : nb ≠ 0 → PP n 1 fT) : PP n 1 (pTest B n nb fS fT) := fun p lv bC bR hp => GP_thn (both_P h hf hT p lv bC bR hp) (fun w _ hg => lpL_P h (fun _ _ e => ⟨Or.inl (oO_o e).1, by have := (oO_o e).2; omega⟩) (both_P h hf hT) 400 w hg)
theorem all_P (h : ∀ i, B i ≤ 255) : ∀ nb, PP n 0 (pAll B n nb).1 ∧ PP n 1 (pAll B n nb).2
  | 0 => ⟨sum_P h (fun z => absurd rfl z), test_P h (fun z => absurd rfl z) (fun z => absurd rfl z)⟩
  | nb + 1 => ⟨sum_P h (fun _ => (all_P h nb).1), test_P h (fun _ => (all_P h nb).1) (fun _ => (all_P h nb).2)⟩
end PRS
