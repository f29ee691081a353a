/-! ===== image, back ===== -/
theorem Der_c {cC cR cC2 cR2 : Nat → Int32} (hC : ∀ i, i < 400 → cC2 i = cC i) (hR : ∀ i, i < 800 → cR2 i = cR i) {k a b a' b' m : Nat} {v : aV} (h : Der cC cR k a b a' b' m v) : b ≤ 400 → b' ≤ 400 → Der cC2 cR2 k a b a' b' m v := by
  refine (h (fun k a b a' b' m v => (a < b ∧ a' < b') ∧ (b ≤ 400 → b' ≤ 400 → Der cC2 cR2 k a b a' b' m v)) ⟨?_, ?_, ?_, ?_, ?_, ?_⟩).2
  · intro a a' n hn h1 h2 h3
    exact ⟨by omega, fun y1 y2 P hP => hP.1 a a' n hn (by rw [hR _ (by omega)]; exact h1) (by rw [hR _ (by omega)]; exact h2) (by rw [hC _ (by omega)]; exact h3)⟩
  · intro a a' w hn h1 h2
    exact ⟨by omega, fun y1 y2 P hP => hP.2.1 a a' w hn (by rw [hR _ (by omega)]; exact h1) (by rw [hC _ (by omega)]; exact h2)⟩
  · intro o k a c b a' c' b' m m2 v w h1 h2 h3 h4 h5 h6 h7
    have q1 := h4.1
    have q2 := h5.1
    exact ⟨by omega, fun y1 y2 P hP => hP.2.2.1 o k a c b a' c' b' m m2 v w h1 h2 h3 (h4.2 (by omega) (by omega) P hP) (h5.2 (by omega) (by omega) P hP) (by rw [hR _ (by omega)]; exact h6) (by rw [hC _ (by omega)]; exact h7)⟩
  · intro a b a' b' m v h1 h2 h3
    have q1 := h1.1
    exact ⟨by omega, fun y1 y2 P hP => hP.2.2.2.1 a b a' b' m v (h1.2 (by omega) (by omega) P hP) (by rw [hR _ (by omega)]; exact h2) (by rw [hC _ (by omega)]; exact h3)⟩
  · intro a b a' b' m v h1 h2 h3
    have q1 := h1.1
    exact ⟨by omega, fun y1 y2 P hP => hP.2.2.2.2.1 a b a' b' m v (h1.2 (by omega) (by omega) P hP) (by rw [hR _ (by omega)]; exact h2) (by rw [hR _ (by omega)]; exact h3)⟩
  · intro o a c b a' c' b' m m2 v w h1 h2 h3 h4 h5 h6
    have q1 := h2.1
    have q2 := h3.1
    exact ⟨by omega, fun y1 y2 P hP => hP.2.2.2.2.2 o a c b a' c' b' m m2 v w h1 (h2.2 (by omega) (by omega) P hP) (h3.2 (by omega) (by omega) P hP) (by rw [hR _ (by omega)]; exact h4) (by rw [hR _ (by omega)]; exact h5) (by rw [hC _ (by omega)]; exact h6)⟩
theorem LWo_c {sc sc2 : Nat → Nat → Int32} {W W2 : Nat → Int32} {c h : Nat} {sv tv : aV} (hc : c < 24) (h1 : ∀ a, 16 ≤ a → a ≤ 19 → sc2 a c = sc a c) (h20 : ∀ i, i < 400 → sc2 20 i = sc 20 i) (h2 : ∀ i, 371 ≤ i → i < 1470 → W2 i = W i) (hl : LWo sc W c h sv tv) : LWo sc2 W2 c h sv tv := by
  obtain ⟨a1, a2, a3, s, t, e, s', t', e', m, m2, ⟨b1, b2, b3⟩, ⟨c1, c2, c3, c4⟩, ⟨d1, d2, d3, d4, d5, d6⟩, e1, e2⟩ := hl
  have dc : ∀ {k a b a' b' m : Nat} {v : aV}, Der (sc 20) (fun i => W (564 + i)) k a b a' b' m v → b ≤ 400 → b' ≤ 400 → Der (sc2 20) (fun i => W2 (564 + i)) k a b a' b' m v := fun h => Der_c h20 (fun i hi => h2 _ (by omega) (by omega)) h
  refine ⟨a1, by rw [h1 16 (by omega) (by omega)]; exact a2, by rw [h2 _ (by omega) (by omega)]; exact a3, s, t, e, s', t', e', m, m2, ⟨by rw [h1 17 (by omega) (by omega)]; exact b1, by rw [h1 18 (by omega) (by omega)]; exact b2, by rw [h1 19 (by omega) (by omega)]; exact b3⟩, ⟨by rw [h2 _ (by omega) (by omega)]; exact c1, by rw [h2 _ (by omega) (by omega)]; exact c2, by rw [h2 _ (by omega) (by omega)]; exact c3, by rw [h2 _ (by omega) (by omega)]; exact c4⟩, ⟨d1, d2, d3, d4, d5, d6⟩, fun z => dc (e1 z) (by omega) (by omega), ?_⟩
  rcases e2 with w | w
  · exact Or.inl w
  · exact Or.inr (dc w d2 d1)
theorem LJ_c {LF : aLF} {sc sc2 : Nat → Nat → Int32} {W W2 : Nat → Int32} (h15 : ∀ j, j < 2 → sc2 15 j = sc 15 j) (h1 : ∀ a, 16 ≤ a → a ≤ 19 → ∀ j, j < 24 → sc2 a j = sc a j) (h20 : ∀ i, i < 400 → sc2 20 i = sc 20 i) (hW : ∀ i, i < 1470 → W2 i = W i) (h : LJ LF sc W) : LJ LF sc2 W2 := by
  obtain ⟨a1, n, hd, sv, tv, b1, b2, b3, b4, b5⟩ := h
  exact ⟨by rw [h15 0 (by decide), hW 1 (by decide)]; exact a1, n, hd, sv, tv, b1, by rw [h15 1 (by decide)]; exact b2, by rw [hW _ (by decide)]; exact b3, fun c hc => LWo_c (by omega) (fun a y1 y2 => h1 a y1 y2 c (by omega)) h20 (fun i y1 y2 => hW i y2) (b4 c hc), b5⟩
def SBx (S : Nat → Nat → Nat) : Prop := (∀ a k, 7 ≤ a → a ≤ 13 → S a k ≤ 255) ∧ (∀ k, S 7 k ≤ 6) ∧ (∀ k, S 9 k ≤ 2) ∧ (∀ k, S 11 k ≤ 31) ∧ (∀ k, S 12 k ≤ 15) ∧ (∀ k, S 13 k ≤ 32)
theorem SBx_S {S : Nat → Nat → Nat} (h : SB S) : SBx S := ⟨h.1, h.2.1, h.2.2.1, h.2.2.2.1, h.2.2.2.2.1, h.2.2.2.2.2.1⟩
def mxs (S Sx : Nat → Nat → Nat) : Nat → Nat → Nat := fun a j => if j < lnS (a - 7) then S a j else Sx a j
/-- a scene taken over: within the rows' lengths as there, behind them as it was -/
theorem OKs_t {S Sx : Nat → Nat → Nat} {LF : aLF} {K K' : Nat → Nat → Int32} {W W' : Nat → Int32} (h : OKs S LF K W) (hc : ∀ a j, 7 ≤ a → a ≤ 20 → j < lnS (a - 7) → K' a j = K a j) (hx : ∀ a j, 7 ≤ a → a ≤ 13 → ¬ j < lnS (a - 7) → K' a j = nI (Sx a j)) (hb : SBx Sx) (hW : ∀ i, i < 1470 → W' i = W i) : OKs (mxs S Sx) LF K' W' := by
  obtain ⟨⟨h1, h2⟩, h3, h4⟩ := h
  obtain ⟨x1, x2, x3, x4, x5, x6⟩ := hb
  obtain ⟨y1, y2, y3, y4, y5, y6, y7, y8⟩ := h2
  have mi : ∀ a j, j < lnS (a - 7) → mxs S Sx a j = S a j := fun a j hj => if_pos hj
  have m7 : mxs S Sx 7 0 = S 7 0 := mi 7 0 (by decide)
  have m10 : ∀ j, j < 7 → mxs S Sx 10 j = S 10 j := fun j hj => mi 10 j hj
  have m9 : ∀ j, j < 6 → mxs S Sx 9 j = S 9 j := fun j hj => mi 9 j hj
  have m8 : ∀ j, j < 48 → mxs S Sx 8 j = S 8 j := fun j hj => mi 8 j hj
  have m11 : ∀ j, j < 72 → mxs S Sx 11 j = S 11 j := fun j hj => mi 11 j hj
  have m12 : ∀ j, j < 72 → mxs S Sx 12 j = S 12 j := fun j hj => mi 12 j hj
  have m13 : ∀ j, j < 72 → mxs S Sx 13 j = S 13 j := fun j hj => mi 13 j hj
  refine ⟨⟨fun a j z1 z2 => ?_, fun a j z1 z2 => ?_, fun j => ?_, fun j => ?_, fun j => ?_, fun j => ?_, fun j => ?_, ?_, fun f hf => ?_⟩, ?_, ?_⟩
  · unfold mxs
    by_cases q : j < lnS (a - 7)
    · rw [if_pos q, hc a j z1 (by omega) q]; exact h1 a j z1 z2
    · rw [if_neg q]; exact hx a j z1 z2 q
  · unfold mxs; split
    · exact y1 a j z1 z2
    · exact x1 a j z1 z2
  · unfold mxs; split
    · exact y2 j
    · exact x2 j
  · unfold mxs; split
    · exact y3 j
    · exact x3 j
  · unfold mxs; split
    · exact y4 j
    · exact x4 j
  · unfold mxs; split
    · exact y5 j
    · exact x5 j
  · unfold mxs; split
    · exact y6 j
    · exact x6 j
  · rw [m10 0 (by decide), m10 1 (by decide), m10 2 (by decide), m10 3 (by decide), m10 4 (by decide), m10 5 (by decide), m10 6 (by decide)]; exact y7
  · rw [m7] at hf
    have := y2 0
    rw [m9 f (by omega)]; exact y8 f hf
  · obtain ⟨a1, a2, a3, a4, a5, a6, a7, a8⟩ := h3
    refine ⟨by rw [hW _ (by omega), m7]; exact a1, fun i hi => by rw [hW _ (by omega), m10 i hi]; exact a2 i hi, fun f hf => by rw [hW _ (by omega), m9 f hf]; exact a3 f hf, fun k hk => by rw [hW _ (by omega), m8 k hk]; exact a4 k hk, fun p hp => by rw [hW _ (by omega), m13 p hp]; exact a5 p hp, fun p hp => by rw [hW _ (by omega), hW _ (by omega), m13 p hp, m11 p hp, m12 p hp]; exact a6 p hp, fun p hp => by rw [hW _ (by omega), m13 p hp]; exact a7 p hp, fun r hr => by rw [hW _ (by omega), hc 14 r (by omega) (by omega) hr]; exact a8 r hr⟩
  · exact LJ_c (fun j hj => hc 15 j (by omega) (by omega) (show j < 3 by omega)) (fun a z1 z2 j hj => hc a j (by omega) (by omega) (by unfold lnS; rw [if_neg (by omega), if_neg (by omega), if_neg (by omega), if_neg (by omega), if_neg (by omega), if_neg (by omega), if_neg (by omega), if_pos (by omega)]; exact hj)) (fun i hi => hc 20 i (by omega) (by omega) hi) hW h4
/-! a new scene -/
theorem gs_put {g : aG} {a k b : Nat} : gs (gput g a k b) = gs g := rfl
theorem z2_n {α : Type} {f : Nat → Nat → α} {a b j : Nat} {v : α} (h : b ≠ a) : z2 f a v b j = f b j := if_neg h
theorem z2_e {α : Type} {f : Nat → Nat → α} {a b j : Nat} {v : α} (h : b = a) : z2 f a v b j = v := if_pos h
theorem u2_z {f : Nat → Nat → Int32} {a k : Nat} (h : ∀ j, f a j = nI 0) : ∀ j, u2 f a k (nI 0) a j = nI 0 := fun j => by
  unfold u2
  split
  · rfl
  · exact h j
def Nx (g g' : aG) (n s : Nat) : Prop := gx g' = gx g + n ∧ gs g' = gs g + s ∧ ∀ a, a < gx g → gK g' a = gK g a ∧ gN g' a = gN g a ∧ ∀ k, gR g' a k = gR g a k
def gSp (g : aG) : aG := gput (gnew (gput (gnew (gput (gnew (gput (gnew (gput (gnew (gnew g 8 8) 12 24) (gx g) 3 (gx g + 1)) 12 24) (gx g) 4 (gx g + 2)) 12 24) (gx g) 5 (gx g + 3)) 12 24) (gx g) 6 (gx g + 4)) 12 400) (gx g) 7 (gx g + 5)
theorem gSp_ok {g : aG} : SCo (gSp g) (gx g) ∧ Nx g (gSp g) 6 504 := by
  have eK : ∀ a, gK (gSp g) a = if a = gx g + 5 then 12 else if a = gx g + 4 then 12 else if a = gx g + 3 then 12 else if a = gx g + 2 then 12 else if a = gx g + 1 then 12 else if a = gx g then 8 else gK g a := fun a => rfl
  have eN : ∀ a, gN (gSp g) a = if a = gx g + 5 then 400 else if a = gx g + 4 then 24 else if a = gx g + 3 then 24 else if a = gx g + 2 then 24 else if a = gx g + 1 then 24 else if a = gx g then 8 else gN g a := fun a => rfl
  have eR : ∀ a k, gR (gSp g) a k = if a = gx g ∧ k = 7 then gx g + 5 else if a = gx g + 5 then 0 else if a = gx g ∧ k = 6 then gx g + 4 else if a = gx g + 4 then 0 else if a = gx g ∧ k = 5 then gx g + 3 else if a = gx g + 3 then 0 else if a = gx g ∧ k = 4 then gx g + 2 else if a = gx g + 2 then 0 else if a = gx g ∧ k = 3 then gx g + 1 else if a = gx g + 1 then 0 else if a = gx g then 0 else gR g a k := fun a k => rfl
  have e2 : gx (gSp g) = gx g + 6 := rfl
  have e3 : gs (gSp g) = gs g + 8 + 24 + 24 + 24 + 24 + 400 := rfl
  generalize gSp g = g' at *
  refine ⟨⟨?_, ⟨?_, ?_, ?_, ?_, ?_⟩, ⟨?_, ?_, ?_, ?_, ?_⟩, ⟨?_, ?_, ?_, ?_, ?_⟩⟩, e2, ?_, fun a ha => ⟨?_, ?_, fun k => ?_⟩⟩
  all_goals first
    | omega
    | (rw [eK]; repeat first | rw [if_neg (by omega)] | rw [if_pos (by omega)])
    | (rw [eN]; repeat first | rw [if_neg (by omega)] | rw [if_pos (by omega)])
    | (rw [eR]; repeat first | rw [if_neg (by omega)] | rw [if_pos (by omega)])
def gSa (g : aG) : aG := gput (gnew (gput (gnew (gput (gnew (gput (gnew (gput (gnew (gput (gnew (gput (gnew (gnew g 7 9) 12 48) (gx g) 1 (gx g + 1)) 12 6) (gx g) 2 (gx g + 2)) 12 7) (gx g) 3 (gx g + 3)) 12 72) (gx g) 4 (gx g + 4)) 12 72) (gx g) 5 (gx g + 5)) 12 72) (gx g) 6 (gx g + 6)) 12 16) (gx g) 7 (gx g + 7)
theorem gSa_ok {g g2 g' : aG} (h2 : SCo g2 (gx (gSa g))) (h3 : Nx (gSa g) g2 6 504) (e : g' = gput g2 (gx g) 8 (gx (gSa g))) : gK g2 (gx g) = 7 ∧ SO g' (gx g) ∧ Nx g g' 14 806 := by
  have eK : ∀ a, gK (gSa g) a = if a = gx g + 7 then 12 else if a = gx g + 6 then 12 else if a = gx g + 5 then 12 else if a = gx g + 4 then 12 else if a = gx g + 3 then 12 else if a = gx g + 2 then 12 else if a = gx g + 1 then 12 else if a = gx g then 7 else gK g a := fun a => rfl
  have eN : ∀ a, gN (gSa g) a = if a = gx g + 7 then 16 else if a = gx g + 6 then 72 else if a = gx g + 5 then 72 else if a = gx g + 4 then 72 else if a = gx g + 3 then 7 else if a = gx g + 2 then 6 else if a = gx g + 1 then 48 else if a = gx g then 9 else gN g a := fun a => rfl
  have eR : ∀ a k, gR (gSa g) a k = if a = gx g ∧ k = 7 then gx g + 7 else if a = gx g + 7 then 0 else if a = gx g ∧ k = 6 then gx g + 6 else if a = gx g + 6 then 0 else if a = gx g ∧ k = 5 then gx g + 5 else if a = gx g + 5 then 0 else if a = gx g ∧ k = 4 then gx g + 4 else if a = gx g + 4 then 0 else if a = gx g ∧ k = 3 then gx g + 3 else if a = gx g + 3 then 0 else if a = gx g ∧ k = 2 then gx g + 2 else if a = gx g + 2 then 0 else if a = gx g ∧ k = 1 then gx g + 1 else if a = gx g + 1 then 0 else if a = gx g then 0 else gR g a k := fun a k => rfl
  have e2 : gx (gSa g) = gx g + 8 := rfl
  have e3 : gs (gSa g) = gs g + 9 + 48 + 6 + 7 + 72 + 72 + 72 + 16 := rfl
  rw [e2] at h2 e
  obtain ⟨n1, n2, n3⟩ := h3
  have fK : ∀ a, a < gx g + 8 → gK g' a = gK (gSa g) a := fun a ha => by rw [e, gK_put]; exact (n3 a (by omega)).1
  have fN : ∀ a, a < gx g + 8 → gN g' a = gN (gSa g) a := fun a ha => by rw [e, gN_put]; exact (n3 a (by omega)).2.1
  have fR : ∀ a k, a < gx g + 8 → ¬ (a = gx g ∧ k = 8) → gR g' a k = gR (gSa g) a k := fun a k ha hk => by rw [e, gR_put, if_neg hk]; exact (n3 a (by omega)).2.2 k
  have r8 : gR g' (gx g) 8 = gx g + 8 := by rw [e, gR_put, if_pos ⟨rfl, rfl⟩]
  have hs : SCo g' (gx g + 8) := by
    rw [e]
    unfold SCo at h2 ⊢
    simp only [gK_put, gN_put, gR_put]
    repeat rw [if_neg (by omega)]
    exact h2
  have x1 : gx g' = gx g2 := by rw [e]; rfl
  have x2 : gs g' = gs g2 := by rw [e]; rfl
  have k0 : gK g2 (gx g) = 7 := by
    rw [(n3 (gx g) (by omega)).1, eK]
    repeat first | rw [if_neg (by omega)] | rw [if_pos rfl]
  clear e
  generalize gSa g = gg at *
  refine ⟨k0, ⟨?_, ⟨?_, ?_, ?_, ?_, ?_, ?_, ?_, r8⟩, ⟨?_, ?_, ?_, ?_, ?_, ?_, ?_⟩, ⟨?_, ?_, ?_, ?_, ?_, ?_, ?_⟩, hs⟩, by omega, by omega, fun a ha => ⟨?_, ?_, fun k => ?_⟩⟩
  all_goals first
    | (rw [fK _ (by omega), eK]; repeat first | rw [if_neg (by omega)] | rw [if_pos (by omega)])
    | (rw [fN _ (by omega), eN]; repeat first | rw [if_neg (by omega)] | rw [if_pos (by omega)])
    | (rw [fR _ _ (by omega) (by omega), eR]; repeat first | rw [if_neg (by omega)] | rw [if_pos (by omega)])
section SIN
variable {d : Nat} {g : aG} {I : Nat → Nat → Int32} {J : Nat → Nat → Int64} {Q : aQ}
theorem c_spInit (hQ : ∀ I' J', (∀ a, a < gx g → I' a = I a ∧ J' a = J a) → (∀ a j, gx g ≤ a → a < gx g + 6 → I' a j = nI 0) → Q none (gSp g, I', J')) : a_call aTab aMX (d + 1) m_Script_init [.ref (gx g)] (gnew g 8 8, z2 I (gx g) 0, z2 J (gx g) 0) Q := by
  rw [e_Script_init, b_Script_init_0, b_Script_init_9, b_Script_init_14, b_Script_init_19, b_Script_init_27, b_Script_init_35, b_Script_init_43, b_Script_init_51, b_Script_init_60]
  simp (disch := omega) only [ncl, nlt, Nat.not_lt_zero, not_false_eq_true, true_and, and_true, eq_self, Nat.reduceLeDiff, gK_new, gK_put, gx_new, gx_put, if_neg, if_pos, if_true, if_false]
  refine hQ _ _ (fun a ha => ⟨?_, ?_⟩) (fun a j y1 y2 => ?_)
  · simp (disch := omega) only [z2_r, u2_r]
  · simp (disch := omega) only [z2_r, u2_r]
  · have hc : a = gx g ∨ a = gx g + 1 ∨ a = gx g + 2 ∨ a = gx g + 3 ∨ a = gx g + 4 ∨ a = gx g + 5 := by omega
    rcases hc with rfl | rfl | rfl | rfl | rfl | rfl
    · simp (disch := omega) only [z2_n]
      exact u2_z (u2_z (u2_z (fun j => z2_e rfl))) j
    · simp (disch := omega) only [z2_n, z2_e]; rfl
    · simp (disch := omega) only [z2_n, z2_e]; rfl
    · simp (disch := omega) only [z2_n, z2_e]; rfl
    · simp (disch := omega) only [z2_n, z2_e]; rfl
    · simp (disch := omega) only [z2_n, z2_e]; rfl
theorem c_scInit (hx : 5 ≤ gx g) (h4 : gK g 4 = 20) (hn : gN g 4 = 7) (hQ : ∀ g' I' J', SO g' (gx g) → Nx g g' 14 806 → (∀ a, a < gx g → I' a = I a ∧ J' a = J a) → (∀ a j, gx g ≤ a → a < gx g + 14 → ¬ (a = gx g + 3 ∧ j < 7) → I' a j = nI 0) → (∀ j, j < 7 → I' (gx g + 3) j = I 4 j) → Q none (g', I', J')) : a_call aTab aMX (d + 2) m_Scene_init [.ref (gx g)] (gnew g 7 9, z2 I (gx g) 0, z2 J (gx g) 0) Q := by
  rw [e_Scene_init, b_Scene_init_0, b_Scene_init_9, b_Scene_init_17, b_Scene_init_25, b_Scene_init_38, b_Scene_init_46, b_Scene_init_54, b_Scene_init_62]
  simp (disch := omega) only [ncl, nlt, Nat.not_lt_zero, not_false_eq_true, true_and, and_true, eq_self, Nat.reduceLeDiff, gK_new, gK_put, gN_new, gN_put, gx_new, gx_put, if_neg, if_pos, if_true, if_false, h4, hn]
  obtain ⟨I1, e1⟩ : ∃ I1, I1 = z2 (z2 (z2 (z2 (row2 (z2 (z2 (u2 (z2 I (gx g) 0) (gx g) 0 (nI 0)) (gx g + 1) 0) (gx g + 2) 0) (gx g + 3) 4 7) (gx g + 4) 0) (gx g + 5) 0) (gx g + 6) 0) (gx g + 7) 0 := ⟨_, rfl⟩
  obtain ⟨J1, e2⟩ : ∃ J1, J1 = z2 (z2 (z2 (z2 (z2 (z2 (z2 (z2 J (gx g) 0) (gx g + 1) 0) (gx g + 2) 0) (gx g + 3) 0) (gx g + 4) 0) (gx g + 5) 0) (gx g + 6) 0) (gx g + 7) 0 := ⟨_, rfl⟩
  show a_wp aTab aMX (d + 1) m_Scene_init 70 [.ref (gx g)] [] (gSa g, z2 (z2 (z2 (z2 (row2 (z2 (z2 (u2 (z2 I (gx g) 0) (gx g) 0 (nI 0)) (gx g + 1) 0) (gx g + 2) 0) (gx g + 3) 4 7) (gx g + 4) 0) (gx g + 5) 0) (gx g + 6) 0) (gx g + 7) 0, z2 (z2 (z2 (z2 (z2 (z2 (z2 (z2 J (gx g) 0) (gx g + 1) 0) (gx g + 2) 0) (gx g + 3) 0) (gx g + 4) 0) (gx g + 5) 0) (gx g + 6) 0) (gx g + 7) 0) Q
  rw [← e1, ← e2, b_Scene_init_70]
  have ex : gx (gSa g) = gx g + 8 := rfl
  refine ⟨by rw [gK_new, if_pos rfl], c_spInit (fun I' J' s3 s4 => ⟨rfl, ?_⟩)⟩
  obtain ⟨s1, s2⟩ := gSp_ok (g := gSa g)
  rw [b_Scene_init_78, b_Scene_init_81]
  obtain ⟨k1, k2, k3⟩ := gSa_ok s1 s2 rfl
  rw [ex] at s3 s4
  have rw2 : ∀ {f : Nat → Nat → Int32} {a b s n j : Nat}, b ≠ a → row2 f a s n b j = f b j := fun h => if_neg h
  refine ⟨k1, hQ _ I' J' k2 k3 (fun a ha => ⟨?_, ?_⟩) (fun a j y1 y2 y3 => ?_) (fun j hj => ?_)⟩
  · rw [(s3 a (by omega)).1, e1]
    funext j
    simp (disch := omega) only [z2_n, u2_n, rw2]
  · rw [(s3 a (by omega)).2, e2]
    simp (disch := omega) only [z2_r]
  · by_cases q : gx g + 8 ≤ a
    · exact s4 a j q (by omega)
    rw [(s3 a (by omega)).1, e1]
    have hc : a = gx g ∨ a = gx g + 1 ∨ a = gx g + 2 ∨ a = gx g + 3 ∨ a = gx g + 4 ∨ a = gx g + 5 ∨ a = gx g + 6 ∨ a = gx g + 7 := by omega
    rcases hc with rfl | rfl | rfl | rfl | rfl | rfl | rfl | rfl
    · simp (disch := omega) only [z2_n, rw2]
      exact u2_z (fun j => z2_e rfl) j
    · simp (disch := omega) only [z2_n, z2_e, rw2]; rfl
    · simp (disch := omega) only [z2_n, z2_e, rw2]; rfl
    · simp (disch := omega) only [z2_n]
      show (if gx g + 3 = gx g + 3 then (if j < 7 then _ else 0) else _) = nI 0
      rw [if_pos rfl, if_neg (by omega)]; rfl
    · simp (disch := omega) only [z2_n, z2_e, rw2]; rfl
    · simp (disch := omega) only [z2_n, z2_e, rw2]; rfl
    · simp (disch := omega) only [z2_n, z2_e, rw2]; rfl
    · simp (disch := omega) only [z2_n, z2_e, rw2]; rfl
  · rw [(s3 _ (by omega)).1, e1]
    simp (disch := omega) only [z2_n]
    show (if gx g + 3 = gx g + 3 then (if j < 7 then z2 (z2 (u2 (z2 I (gx g) 0) (gx g) 0 (nI 0)) (gx g + 1) 0) (gx g + 2) 0 4 j else 0) else _) = I 4 j
    rw [if_pos rfl, if_pos hj]
    simp (disch := omega) only [z2_n, u2_n]
end SIN
