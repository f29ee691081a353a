/-! ===== what holds between the calls ===== -/
/-- a scene that lies at P, seen as the one at 7 -/
def ISH (P : Nat) (I : Nat → Nat → Int32) : Nat → Nat → Int32 := fun a j => I (P + (a - 7)) j
def OKs (S : Nat → Nat → Nat) (LF : aLF) (I : Nat → Nat → Int32) (W : Nat → Int32) : Prop := CS S I ∧ MS S (I 14) W ∧ LJ LF I W
def pn (g : aG) : Nat := if gR g 44 6 = 0 then 1 else 0
def imn (g : aG) : Nat := fb_ct (fun k => decide (gR g 21 k = 0)) 2
def PLg (ow : Nat → Nat) (g : aG) : Prop := gR g 44 6 = 0 ∨ ∃ B, PG g B ∧ B + 16 ≤ gx g ∧ ∀ a, B ≤ a → a < B + 16 → ow a = 7
def IMg (ow : Nat → Nat) (g : aG) : Prop := ∀ k, k < 2 → gR g 21 k = 0 ∨ (SO g (gR g 21 k) ∧ 123 ≤ gR g 21 k ∧ gR g 21 k + 14 ≤ gx g ∧ ∀ a, gR g 21 k ≤ a → a < gR g 21 k + 14 → ow a = 8 + k)
def GG (N : Nat) (ow : Nat → Nat) (g : aG) : Prop := Geo g ∧ 123 ≤ gx g ∧ gN g 1 = N ∧ PW ow g ∧ PLg ow g ∧ IMg ow g ∧ gx g + 7 * nl g + 16 * pn g + 14 * imn g ≤ 209 ∧ gs g + 6697 * nl g + 57358 * pn g + 806 * imn g ≤ 400000
def IMs (g : aG) (I : Nat → Nat → Int32) : Prop := ∀ k, k < 2 → (gR g 21 k = 0 ∧ I 93 k = nI 0) ∨ (gR g 21 k ≠ 0 ∧ I 93 k = nI 1 ∧ ∃ S LF, OKs S LF (ISH (gR g 21 k) I) (fun i => I 92 (1470 * k + i)))
def TAP (I : Nat → Nat → Int32) : Prop := ∃ (B : Nat → Nat) (t : Nat), (∀ i, B i ≤ 255) ∧ t ≤ 400 ∧ I 6 11 = nI t ∧ I 89 8 = nI t ∧ ∀ i, i < t → I 22 i = nI (B i) ∧ I 94 i = nI (B i)
def SCA (I : Nat → Nat → Int32) : Prop := I 6 12 = I 89 6 ∧ I 6 13 = I 89 13 ∧ I 6 14 = I 89 1 ∧ I 6 15 = I 89 61 ∧ (∀ b, b < 12 → I 87 b = I 122 b) ∧ (∀ r, 1 ≤ r → r < 7 → I 88 r = I 90 r)
def CAC (S : Nat → Nat → Nat) (LF : aLF) (g : aG) (I : Nat → Nat → Int32) (J : Nat → Nat → Int64) : Prop := HC S LF I J ∧ I 46 12 = nI 0 ∧ (I 44 0 = nI 0 ∨ (I 44 0 = nI 1 ∧ PR S LF I)) ∧ RC S LF I ∧ MC S (I 14) g I J
def STA (I : Nat → Nat → Int32) (J : Nat → Nat → Int64) : Prop := (I 2 0 = nI 2 ∧ ∀ k, 1 ≤ k → k < 7 → I 2 k = nI 0) ∧ (I 3 0 = nI 32 ∧ I 3 1 = nI 16 ∧ I 3 2 = nI 3 ∧ I 3 3 = nI 1 ∧ I 3 4 = nI 6 ∧ I 3 5 = nI 31 ∧ I 3 6 = nI 31) ∧ (I 4 0 = nI 8 ∧ I 4 1 = nI 1 ∧ I 4 2 = nI 3 ∧ I 4 3 = nI 0 ∧ I 4 4 = nI 0 ∧ I 4 5 = nI 8 ∧ I 4 6 = nI 8) ∧ ∀ k, k < 8 → J 100 k = lN (wh k)
def INV (N : Nat) (X : Nat → Int32) (ow : Nat → Nat) (S : Nat → Nat → Nat) (LF : aLF) (g : aG) (I : Nat → Nat → Int32) (J : Nat → Nat → Int64) : Prop := GG N ow g ∧ I 1 = X ∧ OKs S LF I (I 91) ∧ IMs g I ∧ TAP I ∧ SCA I ∧ CAC S LF g I J ∧ STA I J
def INVx (N : Nat) (X : Nat → Int32) (h : aH) : Prop := ∃ ow S LF, INV N X ow S LF h.1 h.2.1 h.2.2
/-- one call of the class, the same call of the reference -/
def BOTH (N : Nat) (X : Nat → Int32) (d : Nat) (m1 m2 : Nat) (as : List Value) (h : aH) : Prop := a_call aTab aMX d m1 (.ref 6 :: as) h (fun v h2 => ∃ i : Int32, v = some (.int i) ∧ h2.2.1 1 = X ∧ gN h2.1 1 = N ∧ a_call aTab aMX d m2 (.ref 89 :: as) h2 (fun v3 h3 => ∃ i3 : Int32, v3 = some (.int i3) ∧ i = i3 ∧ INVx N X h3))
/-- rows that nothing known speaks of: the sets of the law's method, and thrown -/
theorem plL_S {S S' : Nat → Nat → Nat} {T : Nat → Int32} (h8 : S' 8 = S 8) (h10 : S' 10 0 = S 10 0) : plL S' T = plL S T ∧ nPl S' = nPl S := by
  have e1 : ∀ f dp x y, sl S' f dp x y = sl S f dp x y := fun f dp x y => by funext r c; unfold sl; rw [h8, h10]
  have e2 : ∀ f dp x y, plOk S' T f dp x y = plOk S T f dp x y := fun f dp x y => by unfold plOk; rw [e1]
  have e3 : ∀ f dp x y, mkS S' T f dp x y = mkS S T f dp x y := fun f dp x y => by
    unfold mkS
    congr 1
    funext k
    unfold mkb
    rw [e1]
  have e4 : ∀ f dp x y L, plA S' T f dp x y L = plA S T f dp x y L := fun f dp x y L => by
    by_cases q : plOk S T f dp x y ∧ newM L (mkS S T f dp x y)
    · rw [plA_y q.1 q.2, plA_y (by rw [e2]; exact q.1) (by rw [e3]; exact q.2), e3]
    · rw [plA_n q, plA_n (by rw [e2, e3]; exact q)]
  refine ⟨?_, by unfold nPl; rw [h10]⟩
  funext f n
  induction n with
  | zero => rfl
  | succ n ih =>
    show plA S' T f _ _ _ (plL S' T f n) = plA S T f _ _ _ (plL S T f n)
    rw [ih, e4]
theorem MC_S {S S' : Nat → Nat → Nat} {T : Nat → Int32} {g : aG} {I : Nat → Nat → Int32} {J : Nat → Nat → Int64} (h8 : S' 8 = S 8) (h10 : S' 10 0 = S 10 0) (h : MC S T g I J) : MC S' T g I J := by
  obtain ⟨e1, e2⟩ := plL_S (T := T) h8 h10
  unfold MC GTd MR TGs at h ⊢
  rw [e1, e2, h10]
  exact h
/-- the maker's rows are as they were -/
theorem MC_c {S : Nat → Nat → Nat} {T : Nat → Int32} {ow : Nat → Nat} {g : aG} {I I' : Nat → Nat → Int32} {J J' : Nat → Nat → Int64} (hP : PW ow g) (h1 : ∀ a, 49 ≤ a → a ≤ 86 → I' a = I a) (h2 : J' 49 = J 49 ∧ J' 50 = J 50) (h3 : ∀ a, 123 ≤ a → 1 ≤ ow a → ow a ≤ 6 → I' a = I a ∧ J' a = J a) (h : MC S T g I J) : MC S T g I' J' := by
  obtain ⟨m1, m2, m3⟩ := h
  refine ⟨?_, fun f hf => ?_, ?_⟩
  · rw [h1 49 (by omega) (by omega)]
    rcases m1 with w | ⟨w1, w2⟩
    · exact Or.inl w
    · exact Or.inr ⟨w1, TGs_q (fun a y1 y2 => h1 a (by omega) (by omega)) (by rw [h2.2]) w2⟩
  · rw [h1 84 (by omega) (by omega)]
    rcases m2 f hf with w | ⟨w1, w2, w3⟩
    · exact Or.inl w
    · rcases hP f hf with z | ⟨z1, z2, z3⟩
      · exact absurd z w2
      · have z0 := z1.1
        exact Or.inr ⟨w1, w2, PI_c (fun a y1 y2 => h3 a (by omega) (by rw [z3 a y1 y2]; omega) (by rw [z3 a y1 y2]; omega)) w3⟩
  · rw [h1 49 (by omega) (by omega)]
    rcases m3 with w | ⟨c, w1, w2, w3⟩
    · exact Or.inl w
    · refine Or.inr ⟨c, w1, w2, ?_⟩
      unfold MR at w3 ⊢
      rw [h1 49 (by omega) (by omega), h1 85 (by omega) (by omega), h2.1]
      exact w3
theorem IMs_c {ow : Nat → Nat} {g : aG} {I I' : Nat → Nat → Int32} (hI : IMg ow g) (h1 : I' 92 = I 92) (h2 : I' 93 = I 93) (h3 : ∀ a, 123 ≤ a → 8 ≤ ow a → ow a ≤ 9 → I' a = I a) (h : IMs g I) : IMs g I' := by
  intro k hk
  rw [h1, h2]
  rcases h k hk with w | ⟨w1, w2, S, LF, w3⟩
  · exact Or.inl w
  · refine Or.inr ⟨w1, w2, S, LF, ?_⟩
    rcases hI k hk with z | ⟨z1, z2, z3, z4⟩
    · exact absurd z w1
    · have e : ∀ a, 7 ≤ a → a < 21 → ISH (gR g 21 k) I' a = ISH (gR g 21 k) I a := fun a y1 y2 => by
        funext j
        show I' (gR g 21 k + (a - 7)) j = I (gR g 21 k + (a - 7)) j
        rw [h3 _ (by omega) (by rw [z4 _ (by omega) (by omega)]; omega) (by rw [z4 _ (by omega) (by omega)]; omega)]
      obtain ⟨v1, v2, v3⟩ := w3
      refine ⟨⟨fun a j y1 y2 => by rw [e a y1 (by omega)]; exact v1.1 a j y1 y2, v1.2⟩, by rw [e 14 (by decide) (by decide)]; exact v2, LJ_cong (fun a y1 y2 => e a (by omega) (by omega)) (fun _ _ => rfl) v3⟩
section IV0
variable {N : Nat} {X : Nat → Int32} {ow : Nat → Nat} {S : Nat → Nat → Nat} {LF : aLF} {g : aG} {I : Nat → Nat → Int32} {J : Nat → Nat → Int64}
/-- thrown, the reference's own flag, is in no one's way -/
theorem INV_0 {v : Int32} (h : INV N X ow S LF g I J) : INV N X ow S LF g (u2 I 89 0 v) J := by
  obtain ⟨h1, h2, ⟨h3, h4, h5⟩, h6, ⟨B, t, t1, t2, t3, t4, t5⟩, ⟨s1, s2, s3, s4, s5, s6⟩, ⟨c1, c2, c3, c4, c5⟩, h9⟩ := h
  have r : ∀ a, a ≠ 89 → u2 I 89 0 v a = I a := fun a ha => u2_r ha
  have k : ∀ j, j ≠ 0 → u2 I 89 0 v 89 j = I 89 j := fun j hj => u2_k hj
  have hW : u2 I 89 0 v 91 = I 91 := r 91 (by decide)
  refine ⟨h1, by rw [r 1 (by decide)]; exact h2, ⟨⟨fun a j y1 y2 => by rw [r a (by omega)]; exact h3.1 a j y1 y2, h3.2⟩, by rw [hW, r 14 (by decide)]; exact h4, by rw [hW]; exact LJ_cong (fun a y1 y2 => r a (by omega)) (fun _ _ => rfl) h5⟩, IMs_c h1.2.2.2.2.2.1 (r 92 (by decide)) (r 93 (by decide)) (fun a y1 _ _ => r a (by omega)) h6, ⟨B, t, t1, t2, by rw [r 6 (by decide)]; exact t3, by rw [k 8 (by decide)]; exact t4, fun i hi => by rw [r 22 (by decide), r 94 (by decide)]; exact t5 i hi⟩, ⟨by rw [r 6 (by decide), k 6 (by decide)]; exact s1, by rw [r 6 (by decide), k 13 (by decide)]; exact s2, by rw [r 6 (by decide), k 1 (by decide)]; exact s3, by rw [r 6 (by decide), k 61 (by decide)]; exact s4, by rw [r 87 (by decide), r 122 (by decide)]; exact s5, by rw [r 88 (by decide), r 90 (by decide)]; exact s6⟩, ⟨?_, by rw [r 46 (by decide)]; exact c2, ?_, ?_, ?_⟩, ?_⟩
  · exact HC_c (r 38 (by decide)) (r 39 (by decide)) rfl c1
  · unfold PR at c3 ⊢
    rw [r 44 (by decide), r 47 (by decide)]; exact c3
  · unfold RC LR at c4 ⊢
    rw [k 36 (by decide), k 44 (by decide), k 45 (by decide), r 112 (by decide)]; exact c4
  · rw [r 14 (by decide)]
    exact MC_c h1.2.2.2.1 (fun a y1 y2 => r a (by omega)) ⟨rfl, rfl⟩ (fun a y1 _ _ => ⟨r a (by omega), rfl⟩) c5
  · unfold STA at h9 ⊢
    rw [r 2 (by decide), r 3 (by decide), r 4 (by decide)]; exact h9
/-! four that only tell -/
theorem m_torn {d : Nat} (h : INV N X ow S LF g I J) : BOTH N X (d + 1) m_Cp_torn m_Mo_torn [] (g, I, J) := by
  have hg := h.1.1
  unfold BOTH
  rw [e_Cp_torn, b_Cp_torn_0 hg]
  refine ⟨_, rfl, h.2.1, h.1.2.2.1, ?_⟩
  rw [e_Mo_torn, b_Mo_torn_0 hg]
  refine ⟨_, rfl, ?_, ow, S, LF, INV_0 h⟩
  rw [u2_k (by decide)]; exact h.2.2.2.2.2.1.1
theorem m_fault {d : Nat} (h : INV N X ow S LF g I J) : BOTH N X (d + 1) m_Cp_fault m_Mo_fault [] (g, I, J) := by
  have hg := h.1.1
  unfold BOTH
  rw [e_Cp_fault, b_Cp_fault_0 hg]
  refine ⟨_, rfl, h.2.1, h.1.2.2.1, ?_⟩
  rw [e_Mo_fault, b_Mo_fault_0 hg]
  refine ⟨_, rfl, ?_, ow, S, LF, INV_0 h⟩
  rw [u2_k (by decide)]; exact h.2.2.2.2.2.1.2.1
theorem m_status {d : Nat} (h : INV N X ow S LF g I J) : BOTH N X (d + 1) m_Cp_status m_Mo_status [] (g, I, J) := by
  have hg := h.1.1
  unfold BOTH
  rw [e_Cp_status, b_Cp_status_0 hg]
  refine ⟨_, rfl, h.2.1, h.1.2.2.1, ?_⟩
  rw [e_Mo_status, b_Mo_status_0 hg]
  refine ⟨_, rfl, ?_, ow, S, LF, INV_0 h⟩
  rw [u2_k (by decide)]; exact h.2.2.2.2.2.1.2.2.1
end IV0
