/-! ===== a text, clause by clause ===== -/
abbrev aMv : Type := Nat × Nat × Nat × Nat × Nat × Nat
abbrev aLw : Type := Nat × (Nat × Nat × Nat) × (Nat × Nat × Nat) × aV × aV
abbrev aT : Type := Nat × Nat × List Nat × List (Nat × Nat) × List aMv × List aLw
noncomputable def pNum (B : Nat → Nat) (n lo hi p : Nat) : Nat ⊕ (Nat × Nat) := if tk B n p = 257 ∧ lo ≤ nv B n p ∧ nv B n p ≤ hi then .inr (le B n p, nv B n p) else .inl (ls B n p)
noncomputable def pTok (B : Nat → Nat) (n t p : Nat) : Nat ⊕ Nat := if tk B n p = t then .inr (le B n p) else .inl (ls B n p)
def thx {α β : Type} (r : Nat ⊕ α) (k : α → Nat ⊕ β) : Nat ⊕ β := match r with
  | .inl q => .inl q
  | .inr w => k w
/-- behind figure's number -/
noncomputable def pMv2 (B : Nat → Nat) (n a b f p : Nat) : Nat ⊕ (Nat × aMv) := if tk B n p = 269 then .inr (le B n p, (a, b, f, 0, 0, 0)) else thx (pTok B n 268 p) (fun p5 => thx (pNum B n 0 31 p5) (fun u => thx (pTok B n 44 u.1) (fun p7 => thx (pNum B n 0 15 p7) (fun v => thx (pTok B n 265 v.1) (fun p9 => thx (pNum B n 1 32 p9) (fun w => .inr (w.1, (a, b, f, u.2, v.2, w.2))))))))
noncomputable def pMv1 (B : Nat → Nat) (n a b p : Nat) : Nat ⊕ (Nat × aMv) := thx (pNum B n 0 5 p) (fun u => pMv2 B n a b u.2 u.1)
noncomputable def pMove (B : Nat → Nat) (n p : Nat) : Nat ⊕ (Nat × aMv) := thx (pNum B n 0 11 (le B n p)) (fun u => if tk B n u.1 = 267 then thx (pNum B n u.2 11 (le B n u.1)) (fun v => pMv1 B n u.2 v.2 v.1) else pMv1 B n u.2 u.2 u.1)
/-- the sum of a law, its test -/
noncomputable def pLs (B : Nat → Nat) (n h p lv bC bR : Nat) : Nat ⊕ aS := if h = 3 then .inr (p, lv, [], [], fun _ => none) else pEx B n false p lv bC bR
noncomputable def pLt (B : Nat → Nat) (n p lv bC bR : Nat) : Nat ⊕ aS := if tk B n p = 273 then pEx B n true (le B n p) lv bC bR else .inr (p, lv, [], [], fun _ => some 1)
noncomputable def pLaw (B : Nat → Nat) (n h p : Nat) (s : aT) : Nat ⊕ aT := thx (pLs B n h p s.2.1 s.2.2.1.length s.2.2.2.1.length) (fun w => thx (pLt B n w.1 w.2.1 (s.2.2.1 ++ w.2.2.1).length (s.2.2.2.1 ++ w.2.2.2.1).length) (fun z => .inr (z.1, z.2.1, s.2.2.1 ++ w.2.2.1 ++ z.2.2.1, s.2.2.2.1 ++ w.2.2.2.1 ++ z.2.2.2.1, s.2.2.2.2.1, s.2.2.2.2.2 ++ [(h, (s.2.2.1.length, (s.2.2.1 ++ w.2.2.1).length, (s.2.2.1 ++ w.2.2.1 ++ z.2.2.1).length), (s.2.2.2.1.length, (s.2.2.2.1 ++ w.2.2.2.1).length, (s.2.2.2.1 ++ w.2.2.2.1 ++ z.2.2.2.1).length), w.2.2.2.2, z.2.2.2.2)])))
noncomputable def pCla (B : Nat → Nat) (n : Nat) (s : aT) : Nat ⊕ aT := if tk B n s.1 = 260 then thx (pMove B n s.1) (fun w => .inr (w.1, s.2.1, s.2.2.1, s.2.2.2.1, s.2.2.2.2.1 ++ [w.2], s.2.2.2.2.2)) else if 270 ≤ tk B n s.1 ∧ tk B n s.1 ≤ 272 then pLaw B n (tk B n s.1 - 269) (le B n s.1) s else .inl (ls B n s.1)
noncomputable def pTx (B : Nat → Nat) (n : Nat) : Nat → Nat → aT → Nat ⊕ (Nat × aT)
  | 0, _, s => .inl (ls B n s.1)
  | k + 1, c, s => thx (pCla B n s) (fun w => if tk B n w.1 = 256 then .inr (c + 1, w) else if tk B n w.1 = 59 then pTx B n k (c + 1) (le B n w.1, w.2) else .inl (ls B n w.1))
def s0 : aT := (0, 0, [], [], [], [])
/-! what holds of it -/
def LWp (C : List Nat) (R : List (Nat × Nat)) (w : aLw) : Prop := 1 ≤ w.1 ∧ w.1 ≤ 3 ∧ (w.2.1.2.1 ≤ w.2.1.2.2 ∧ w.2.1.2.2 ≤ C.length) ∧ (w.2.2.1.2.1 ≤ w.2.2.1.2.2 ∧ w.2.2.1.2.2 ≤ R.length) ∧ ∃ m m2, m ≤ 64 ∧ m2 ≤ 64 ∧ ∀ cC cR, hC C 0 cC → hR R 0 cR → (w.1 ≠ 3 → Der cC cR 0 w.2.2.1.1 w.2.2.1.2.1 w.2.1.1 w.2.1.2.1 m w.2.2.2.1) ∧ ((w.2.1.2.1 = w.2.1.2.2 ∧ w.2.2.1.2.1 = w.2.2.1.2.2 ∧ ∀ E, w.2.2.2.2 E = some 1) ∨ Der cC cR 1 w.2.2.1.2.1 w.2.2.1.2.2 w.2.1.2.1 w.2.1.2.2 m2 w.2.2.2.2)
theorem LWp_m {C D : List Nat} {R S : List (Nat × Nat)} {w : aLw} (h : LWp C R w) : LWp (C ++ D) (R ++ S) w := by
  obtain ⟨h1, h2, h3, h4, m, m2, h5, h5', h6⟩ := h
  refine ⟨h1, h2, ⟨h3.1, by rw [List.length_append]; omega⟩, ⟨h4.1, by rw [List.length_append]; omega⟩, m, m2, h5, h5', fun cC cR g1 g2 => h6 cC cR (hC_app.1 g1).1 (hR_app.1 g2).1⟩
def MVp (w : aMv) : Prop := w.1 ≤ w.2.1 ∧ w.2.1 ≤ 11 ∧ w.2.2.1 ≤ 5 ∧ w.2.2.2.1 ≤ 31 ∧ w.2.2.2.2.1 ≤ 15 ∧ w.2.2.2.2.2 ≤ 32
def TI (n : Nat) (s : aT) : Prop := s.1 ≤ n ∧ s.2.2.1.length ≤ s.1 ∧ s.2.2.2.1.length ≤ s.1 ∧ s.2.1 ≤ 50 ∧ (∀ w ∈ s.2.2.2.2.1, MVp w) ∧ (∀ w ∈ s.2.2.2.2.2, LWp s.2.2.1 s.2.2.2.1 w)
section TXT
variable {B : Nat → Nat} {n : Nat}
theorem num_le {lo hi p : Nat} {w : Nat × Nat} (hp : p ≤ n) (h : pNum B n lo hi p = .inr w) : w.1 ≤ n ∧ p ≤ w.1 ∧ lo ≤ w.2 ∧ w.2 ≤ hi := by
  unfold pNum at h
  split at h
  · rename_i q
    cases h
    refine ⟨le_le hp, ?_, q.2.1, q.2.2⟩
    show p ≤ le B n p
    have h0 : p ≤ ls B n p := rN_ge
    unfold le
    have : ls B n p ≤ de B n p := rN_ge
    have : ls B n p ≤ we B n p := rN_ge
    split
    · omega
    · split
      · omega
      · split <;> omega
  · cases h
theorem le_ge {p : Nat} : p ≤ le B n p := by
  have h0 : p ≤ ls B n p := rN_ge
  unfold le
  have : ls B n p ≤ de B n p := rN_ge
  have : ls B n p ≤ we B n p := rN_ge
  split
  · omega
  · split
    · omega
    · split <;> omega
theorem tok_le {t p w : Nat} (hp : p ≤ n) (h : pTok B n t p = .inr w) : w ≤ n ∧ p ≤ w := by
  unfold pTok at h
  split at h
  · cases h
    exact ⟨le_le hp, le_ge⟩
  · cases h
theorem thx_r {α β : Type} {r : Nat ⊕ α} {k : α → Nat ⊕ β} {w : β} (h : thx r k = .inr w) : ∃ u, r = .inr u ∧ k u = .inr w := by
  cases r with
  | inl q => cases h
  | inr u => exact ⟨u, rfl, h⟩
theorem mv2_P {a b f p : Nat} {w : Nat × aMv} (hp : p ≤ n) (ha : a ≤ b) (hb : b ≤ 11) (hf : f ≤ 5) (h : pMv2 B n a b f p = .inr w) : w.1 ≤ n ∧ p ≤ w.1 ∧ MVp w.2 := by
  unfold pMv2 at h
  split at h
  · cases h
    exact ⟨le_le hp, le_ge, ha, hb, hf, Nat.zero_le _, Nat.zero_le _, Nat.zero_le _⟩
  · obtain ⟨p5, h5, h⟩ := thx_r h
    obtain ⟨u, hu, h⟩ := thx_r h
    obtain ⟨p7, h7, h⟩ := thx_r h
    obtain ⟨v, hv, h⟩ := thx_r h
    obtain ⟨p9, h9, h⟩ := thx_r h
    obtain ⟨z, hz, h⟩ := thx_r h
    cases h
    have a1 := tok_le hp h5
    have a2 := num_le a1.1 hu
    have a3 := tok_le a2.1 h7
    have a4 := num_le a3.1 hv
    have a5 := tok_le a4.1 h9
    have a6 := num_le a5.1 hz
    exact ⟨a6.1, by omega, ha, hb, hf, a2.2.2.2, a4.2.2.2, a6.2.2.2⟩
theorem mv1_P {a b p : Nat} {w : Nat × aMv} (hp : p ≤ n) (ha : a ≤ b) (hb : b ≤ 11) (h : pMv1 B n a b p = .inr w) : w.1 ≤ n ∧ p ≤ w.1 ∧ MVp w.2 := by
  unfold pMv1 at h
  obtain ⟨u, hu, h⟩ := thx_r h
  have a1 := num_le hp hu
  have := mv2_P a1.1 ha hb a1.2.2.2 h
  exact ⟨this.1, by omega, this.2.2⟩
theorem move_P {p : Nat} {w : Nat × aMv} (hp : p ≤ n) (h : pMove B n p = .inr w) : w.1 ≤ n ∧ p ≤ w.1 ∧ MVp w.2 := by
  unfold pMove at h
  obtain ⟨u, hu, h⟩ := thx_r h
  have h0 := le_le (B := B) hp
  have hg : p ≤ le B n p := le_ge
  have a1 := num_le h0 hu
  split at h
  · obtain ⟨v, hv, h⟩ := thx_r h
    have h1 := le_le (B := B) a1.1
    have hg1 : u.1 ≤ le B n u.1 := le_ge
    have a2 := num_le h1 hv
    have := mv1_P a2.1 a2.2.2.1 a2.2.2.2 h
    exact ⟨this.1, by omega, this.2.2⟩
  · have := mv1_P a1.1 (Nat.le_refl _) a1.2.2.2 h
    exact ⟨this.1, by omega, this.2.2⟩
theorem ls_P (h : ∀ i, B i ≤ 255) {hd p lv bC bR : Nat} {w : aS} (hp : p ≤ n) (hlv : lv ≤ 50) (e : pLs B n hd p lv bC bR = .inr w) : p + w.2.2.1.length ≤ w.1 ∧ p + w.2.2.2.1.length ≤ w.1 ∧ w.1 ≤ n ∧ lv ≤ w.2.1 ∧ w.2.1 ≤ 50 ∧ ∀ cC cR, hC w.2.2.1 bC cC → hR w.2.2.2.1 bR cR → hd ≠ 3 → Der cC cR 0 bR (bR + w.2.2.2.1.length) bC (bC + w.2.2.1.length) (w.2.1 - lv) w.2.2.2.2 := by
  unfold pLs at e
  split at e
  · rename_i q
    cases e
    exact ⟨Nat.le_refl _, Nat.le_refl _, hp, Nat.le_refl _, hlv, fun _ _ _ _ z => absurd q z⟩
  · have := (all_P (n := n) h 8).1 p lv bC bR hp w e
    exact ⟨this.1, this.2.1, this.2.2.2.1, by have := this.2.2.2.2.1; omega, this.2.2.2.2.2.1, fun cC cR g1 g2 _ => this.2.2.2.2.2.2 cC cR g1 g2⟩
theorem lt_P (h : ∀ i, B i ≤ 255) {p lv bC bR : Nat} {w : aS} (hp : p ≤ n) (hlv : lv ≤ 50) (e : pLt B n p lv bC bR = .inr w) : p + w.2.2.1.length ≤ w.1 ∧ p + w.2.2.2.1.length ≤ w.1 ∧ w.1 ≤ n ∧ lv ≤ w.2.1 ∧ w.2.1 ≤ 50 ∧ ∀ cC cR, hC w.2.2.1 bC cC → hR w.2.2.2.1 bR cR → ((w.2.2.1 = [] ∧ w.2.2.2.1 = [] ∧ ∀ E, w.2.2.2.2 E = some 1) ∨ Der cC cR 1 bR (bR + w.2.2.2.1.length) bC (bC + w.2.2.1.length) (w.2.1 - lv) w.2.2.2.2) := by
  unfold pLt at e
  split at e
  · have hg : p ≤ le B n p := le_ge
    have := (all_P (n := n) h 8).2 (le B n p) lv bC bR (le_le hp) w e
    exact ⟨by have := this.1; omega, by have := this.2.1; omega, this.2.2.2.1, by have := this.2.2.2.2.1; omega, this.2.2.2.2.2.1, fun cC cR g1 g2 => Or.inr (this.2.2.2.2.2.2 cC cR g1 g2)⟩
  · cases e
    exact ⟨Nat.le_refl _, Nat.le_refl _, hp, Nat.le_refl _, hlv, fun _ _ _ _ => Or.inl ⟨rfl, rfl, fun _ => rfl⟩⟩
theorem Der_m {cC cR : Nat → Int32} {k a b a' b' m m2 : Nat} {v : aV} (e : m = m2) (h : Der cC cR k a b a' b' m v) : Der cC cR k a b a' b' m2 v := by rw [← e]; exact h
end TXT
