/-! ===== the class solves what a cast can make ===== -/
def MR (S : Nat → Nat → Nat) (T : Nat → Int32) (c : Nat) (I : Nat → Nat → Int32) (J : Nat → Nat → Int64) : Prop := (tCells T = 0 → I 49 0 = nI 0 ∧ I 49 10 = nI 0 ∧ J 49 9 = lN 1) ∧ (tCells T ≠ 0 → J 49 9 = lN (totW (2 ^ tCells T - 1) (fun f => plL S T f (nPl S)) c) ∧ MADE (2 ^ tCells T - 1) (fun f => plL S T f (nPl S)) c 64 (fun f i => LQ (plL S T f (nPl S)) i) (I 49 0) (I 49 10) (I 85))
def MC (S : Nat → Nat → Nat) (T : Nat → Int32) (g : aG) (I : Nat → Nat → Int32) (J : Nat → Nat → Int64) : Prop := (I 49 8 = nI 0 ∨ (I 49 8 = nI 1 ∧ TGs S T I J)) ∧ GTd S T g I J ∧ (I 49 7 = (-1 : Int32) ∨ ∃ c, c < 64 ∧ I 49 7 = nI c ∧ MR S T c I J)
theorem MADE_s {fu c n : Nat} {A : Nat → List (Nat × Nat)} {val : Nat → Nat → Nat} {fe se : Int32} {X : Nat → Int32} (h : MADE fu A c n val fe se X) (h0 : wM fu A c n = 0) : MADE fu A c (n + 1) val fe se X := by
  unfold MADE at h ⊢
  rw [fb_sm_succ, h0, Nat.add_zero]
  refine ⟨h.1, fun w => ?_⟩
  obtain ⟨t, ⟨b1, b2, b3⟩, h2⟩ := h.2 w
  refine ⟨t, ⟨by omega, b2, fun t' h3 h4 => ?_⟩, h2⟩
  by_cases q : t' = n
  · rw [q, h0] at h4; exact absurd rfl h4
  · exact b3 t' (by omega) h4
theorem MADE_R {fu c n : Nat} {A : Nat → List (Nat × Nat)} {val : Nat → Nat → Nat} {I I2 : Nat → Nat → Int32} (hn : n < 64) (hm : inM c n) (h : MADE fu A c n val (I 49 0) (I 49 10) (I 85)) (hR : RES (wS fu A n ≠ 0) (CHO fu A n val) I I2 (sz n) n) : MADE fu A c (n + 1) val (I2 49 0) (I2 49 10) (I2 85) := by
  have ew := wM_y (fu := fu) (A := A) hm
  have z3 := hm.2.2
  by_cases q : wS fu A n = 0
  · obtain ⟨a1, a2, a3⟩ := hR.2 (fun w => w.1 q)
    rw [a1, a2, a3]
    exact MADE_s h (ew.trans q)
  have qn : fb_sm (wM fu A c) (n + 1) ≠ 0 := by rw [fb_sm_succ, ew]; omega
  refine ⟨fun z => absurd z qn, fun _ => ?_⟩
  by_cases qs : fb_sm (wM fu A c) n = 0
  · obtain ⟨h1, h2⟩ := h.1 qs
    obtain ⟨a1, a2, a3⟩ := hR.1 ⟨q, Or.inl h1⟩
    refine ⟨n, ⟨by omega, by rw [ew]; exact q, fun t' h3 h4 => ?_⟩, a1, a2, a3⟩
    by_cases y : t' = n
    · right; rw [y]; exact ⟨rfl, Nat.le_refl _⟩
    · exact absurd (fb_sm_zero qs t' (by omega)) h4
  · obtain ⟨t, ⟨b1, b2, b3⟩, h1, h2, h3⟩ := h.2 qs
    have ht3 := (wM_in b2).2.2
    by_cases qb : sz n < sz t
    · obtain ⟨a1, a2, a3⟩ := hR.1 ⟨q, Or.inr (by rw [h1, nlt (by omega) (by omega)]; exact qb)⟩
      refine ⟨n, ⟨by omega, by rw [ew]; exact q, fun t' h4 h5 => ?_⟩, a1, a2, a3⟩
      by_cases y : t' = n
      · right; rw [y]; exact ⟨rfl, Nat.le_refl _⟩
      · have := b3 t' (by omega) h5
        omega
    · have nb : ¬ BT I (sz n) := by
        rintro (w | w)
        · rw [h1] at w; exact nI_m1 (by omega) w
        · rw [h1, nlt (by omega) (by omega)] at w; exact qb w
      obtain ⟨a1, a2, a3⟩ := hR.2 (fun w => nb w.2)
      rw [a1, a2, a3]
      refine ⟨t, ⟨by omega, b2, fun t' h4 h5 => ?_⟩, h1, h2, h3⟩
      by_cases y : t' = n
      · rw [y]; omega
      · exact b3 t' (by omega) h5
/-- what solving leaves as it was -/
def GQ (ow : Nat → Nat) (g : aG) (I : Nat → Nat → Int32) (J : Nat → Nat → Int64) (ow2 : Nat → Nat) (g2 : aG) (I2 : Nat → Nat → Int32) (J2 : Nat → Nat → Int64) : Prop := Gp g g2 ∧ (gx g2 + 7 * nl g2 = gx g + 7 * nl g ∧ gs g2 + 6697 * nl g2 = gs g + 6697 * nl g) ∧ PW ow2 g2 ∧ (∀ a, a < gx g → ow2 a = ow a) ∧ (∀ a, a < 123 → ¬ (49 ≤ a ∧ a ≤ 86) → I2 a = I a) ∧ (∀ a, a < 123 → a ≠ 49 → a ≠ 50 → J2 a = J a) ∧ (∀ a, 123 ≤ a → a < gx g → ¬ (1 ≤ ow a ∧ ow a ≤ 6) → I2 a = I a ∧ J2 a = J a)
section SOL
variable {d : Nat} {g : aG} {I : Nat → Nat → Int32} {J : Nat → Nat → Int64} {Q : aQ} {S : Nat → Nat → Nat} {T : Nat → Int32}
theorem GTd_c {g : aG} {ow : Nat → Nat} {I' : Nat → Nat → Int32} {J' : Nat → Nat → Int64} (hP : PW ow g) (h84 : I' 84 = I 84) (h : ∀ a, 123 ≤ a → I' a = I a ∧ J' a = J a) (hG : GTd S T g I J) : GTd S T g I' J' := by
  intro f hf
  rw [h84]
  rcases hG f hf with w | ⟨w1, w2, w3⟩
  · exact Or.inl w
  · rcases hP f hf with z | ⟨z1, z2, z3⟩
    · exact absurd z w2
    · have z0 := z1.1
      exact Or.inr ⟨w1, w2, PI_c (fun a h1 h2 => h a (by omega)) w3⟩
theorem c_solve {ow : Nat → Nat} {c : Nat} (hg : Geo g) (hx : 123 ≤ gx g) (hS : CS S I) (hc64 : tCells (I 14) ≤ 64) (hP : PW ow g) (hM : MC S (I 14) g I J) (hc : c < 64) (hQ : ∀ ow' g' I' J', GQ ow g I J ow' g' I' J' → MC S (I 14) g' I' J' → I' 49 7 = nI c → MR S (I 14) c I' J' → Q none (g', I', J')) : a_call aTab aMX (d + 7) m_Maker_solve [.ref 49, .int (nI c)] (g, I, J) Q := by
  obtain ⟨T, eT⟩ : ∃ T, T = I 14 := ⟨_, rfl⟩
  rw [← eT] at hQ hM hc64
  obtain ⟨m1, m2, m3⟩ := hM
  have hfu : 2 ^ tCells T - 1 < 2 ^ 64 := by
    have h1 : 2 ^ tCells T ≤ 2 ^ 64 := Nat.pow_le_pow_right (n := 2) (by decide) hc64
    have h2 : 0 < 2 ^ tCells T := Nat.two_pow_pos _
    omega
  rw [e_Maker_solve, b_Maker_solve_0 hg]
  by_cases q7 : nI c = I 49 7
  · rw [if_pos q7, b_Maker_solve_8]
    have q7' : MR S T c I J := by
      rcases m3 with w | ⟨c', w1, w2, w3⟩
      · rw [w] at q7; exact absurd q7 (nI_m1 (by omega))
      · rw [w2, neq (by omega) (by omega)] at q7
        rw [q7]; exact w3
    exact hQ ow g I J ⟨Gp_r g, ⟨rfl, rfl⟩, hP, fun _ _ => rfl, fun _ _ _ => rfl, fun _ _ _ _ => rfl, fun _ _ _ _ => ⟨rfl, rfl⟩⟩ ⟨m1, m2, m3⟩ q7.symm q7'
  rw [if_neg q7, b_Maker_solve_9 hg]
  -- from 37 on
  have at37 : ∀ I2 J2, (∀ a, ¬ (49 ≤ a ∧ a ≤ 82) → I2 a = I a) → (∀ a k, ¬ (a = 50 ∧ k = 1) → J2 a k = J a k) → I2 49 7 = nI c → I2 49 8 = nI 1 → TGs S T I2 J2 → ∀ v1, a_wp aTab aMX (d + 6) m_Maker_solve 37 [.ref 49, v1, aU] [] (g, I2, J2) Q := by
    intro I2 J2 h1 h2 h3 h4 h5 v1
    have e50 : I2 50 0 = nI (tCells T) := h5.1
    have eJ : J2 50 1 = lN (2 ^ tCells T - 1) := h5.2.1
    rw [b_Maker_solve_37 hg, u2_a (by decide), e50]
    rw [req (by omega) (by omega)]
    have hS2 : CS S I2 := ⟨fun a k h6 h7 => by rw [h1 a (by omega)]; exact hS.1 a k h6 h7, hS.2⟩
    by_cases qz : tCells T = 0
    · rw [if_pos qz, b_Maker_solve_53, b_Maker_solve_58 hg, u2_a (by decide), e50, req (by omega) (by omega), if_pos qz, b_Maker_solve_72, b_Maker_solve_77 hg, u2_a (by decide), u2_a (by decide), e50, rlt (by omega) (by omega), if_neg (by omega), b_Maker_solve_132]
      have hR : MR S T c (u2 (u2 I2 49 10 (nI 0)) 49 0 (nI 0)) (u2 J2 49 9 (lN 1)) := ⟨fun _ => ⟨u2_s, by rw [u2_k (by decide), u2_s], u2_s⟩, fun z => absurd qz z⟩
      have f1 : ∀ a, a ≠ 49 → u2 (u2 I2 49 10 (nI 0)) 49 0 (nI 0) a = I2 a := fun a ha => by rw [u2_r ha, u2_r ha]
      have f2 : ∀ a, a ≠ 49 → u2 J2 49 9 (lN 1) a = J2 a := fun a ha => u2_r ha
      have f7 : u2 (u2 I2 49 10 (nI 0)) 49 0 (nI 0) 49 7 = nI c := by rw [u2_k (by decide), u2_k (by decide)]; exact h3
      have f8 : u2 (u2 I2 49 10 (nI 0)) 49 0 (nI 0) 49 8 = nI 1 := by rw [u2_k (by decide), u2_k (by decide)]; exact h4
      generalize u2 (u2 I2 49 10 (nI 0)) 49 0 (nI 0) = I3 at *
      generalize u2 J2 49 9 (lN 1) = J3 at *
      have J2r : ∀ a, a ≠ 50 → J2 a = J a := fun a ha => funext (fun k => h2 a k (by omega))
      refine hQ ow g I3 J3 ⟨Gp_r g, ⟨rfl, rfl⟩, hP, fun _ _ => rfl, fun a h6 h7 => ?_, fun a h6 h7 h8 => ?_, fun a h6 h7 h8 => ⟨?_, ?_⟩⟩ ⟨Or.inr ⟨f8, TGs_q (fun a h6 h7 => f1 a (by omega)) (by rw [f2 50 (by decide)]) h5⟩, ?_, Or.inr ⟨c, hc, f7, hR⟩⟩ f7 hR
      · rw [f1 a (by omega)]; exact h1 a (by omega)
      · rw [f2 a h7]; exact J2r a h8
      · rw [f1 a (by omega)]; exact h1 a (by omega)
      · rw [f2 a (by omega)]; exact J2r a (by omega)
      · refine GTd_c hP ?_ ?_ m2
        · rw [f1 84 (by decide)]; exact h1 84 (by omega)
        · intro a ha
          rw [f1 a (by omega), f2 a (by omega)]
          exact ⟨h1 a (by omega), J2r a (by omega)⟩
    rw [if_neg qz, b_Maker_solve_57, b_Maker_solve_58 hg, u2_a (by decide), e50, req (by omega) (by omega), if_neg qz, b_Maker_solve_76, b_Maker_solve_77 hg, u2_a (by decide), u2_a (by decide), e50, rlt (by omega) (by omega), if_pos (by omega), b_Maker_solve_90 hg]
    have g0 : u2 (u2 I2 49 10 (nI 0)) 49 0 (-1 : Int32) 49 0 = (-1 : Int32) := u2_s
    have g10 : u2 (u2 I2 49 10 (nI 0)) 49 0 (-1 : Int32) 49 10 = nI 0 := by rw [u2_k (by decide), u2_s]
    have g9 : u2 J2 49 9 (lN 0) 49 9 = lN 0 := u2_s
    have f1 : ∀ a, a ≠ 49 → u2 (u2 I2 49 10 (nI 0)) 49 0 (-1 : Int32) a = I2 a := fun a ha => by rw [u2_r ha, u2_r ha]
    have f2 : ∀ a, a ≠ 49 → u2 J2 49 9 (lN 0) a = J2 a := fun a ha => u2_r ha
    have f7 : u2 (u2 I2 49 10 (nI 0)) 49 0 (-1 : Int32) 49 7 = nI c := by rw [u2_k (by decide), u2_k (by decide)]; exact h3
    have f8 : u2 (u2 I2 49 10 (nI 0)) 49 0 (-1 : Int32) 49 8 = nI 1 := by rw [u2_k (by decide), u2_k (by decide)]; exact h4
    generalize u2 (u2 I2 49 10 (nI 0)) 49 0 (-1 : Int32) = I3 at *
    generalize u2 J2 49 9 (lN 0) = J3 at *
    have J2r : ∀ a, a ≠ 50 → J2 a = J a := fun a ha => funext (fun k => h2 a k (by omega))
    have hS3 : CS S I3 := ⟨fun a k h6 h7 => by rw [f1 a (by omega)]; exact hS2.1 a k h6 h7, hS.2⟩
    have hT3 : TGs S T I3 J3 := TGs_q (fun a h6 h7 => f1 a (by omega)) (by rw [f2 50 (by decide)]) h5
    have hG3 : GTd S T g I3 J3 := GTd_c hP (by rw [f1 84 (by decide)]; exact h1 84 (by omega)) (fun a ha => by
      rw [f1 a (by omega), f2 a (by omega)]
      exact ⟨h1 a (by omega), J2r a (by omega)⟩) m2
    refine c_gatherCast hg hx hS3 hT3 hc64 hP hG3 hc f7 ?_
    intro ow4 g4 I4 J4 hs4 hb4
    obtain ⟨s1, s2, s3, s4, s5, s6, s7⟩ := hs4
    have hg4 := Gp_geo hx s1 hg
    simp only [exV, true_and]
    rw [b_Maker_solve_94]
    have i4 : ∀ a, a < 123 → a ≠ 84 → I4 a = I3 a := fun a h6 h7 => (s5 a h6).1 h7
    have j4 : ∀ a, a < 123 → J4 a = J3 a := fun a h6 => (s5 a h6).2
    have hA : ∀ f, f < 6 → c.testBit f = true → PO g4 (gR g4 83 f) ∧ PI (gR g4 83 f) (plL S T f (nPl S)) I4 J4 := by
      intro f hf hb
      rcases s7 f hf with w | ⟨w1, w2, w3⟩
      · have := hb4 f hf hb
        rw [w] at this
        exact absurd this (by decide)
      · rcases s3 f hf with z | ⟨z1, z2, z3⟩
        · exact absurd z w2
        · exact ⟨z1, w3⟩
    have hL : ∀ f, f < 6 → mOk (plL S T f (nPl S)) ∧ (plL S T f (nPl S)).length ≤ 1632 ∧ ∀ i, i < (plL S T f (nPl S)).length → sbs (LM (plL S T f (nPl S)) i) (2 ^ tCells T - 1) := fun f hf => ⟨plL_ok hc64 _, plL_all hS.2, plL_fu _⟩
    have t0 : wM (2 ^ tCells T - 1) (fun f => plL S T f (nPl S)) c 0 = 0 := wM_n (fun w => w.1 rfl)
    -- the sets
    refine dn (P := fun n => 1 ≤ n → ∀ I5 J5, XT I4 I5 → XJ J4 J5 → J5 49 9 = lN (fb_sm (wM (2 ^ tCells T - 1) (fun f => plL S T f (nPl S)) c) n) → MADE (2 ^ tCells T - 1) (fun f => plL S T f (nPl S)) c n (fun f i => LQ (plL S T f (nPl S)) i) (I5 49 0) (I5 49 10) (I5 85) → ∀ v1, a_wp aTab aMX (d + 6) m_Maker_solve 96 [.ref 49, v1, .int (nI n)] [] (g4, I5, J5) Q) (n := 64) ?_ ?_ 1 (by omega) (by omega) I4 J4 (XT_r I4) (XJ_r J4) ?_ ?_ _
    · intro _ I5 J5 hX hXJ h9 hMd v1
      rw [b_Maker_solve_96, rlt (by omega) (by omega), if_neg (by omega), b_Maker_solve_132]
      have x5 : ∀ a, a ≠ 85 → a ≠ 86 → a ≠ 49 → I5 a = I4 a := fun a => XT_a hX
      have y5 : ∀ a, a ≠ 49 → J5 a = J4 a := fun a => XJ_a hXJ
      have e7 : I5 49 7 = nI c := by rw [hX 49 7 (by decide) (by decide) (by omega), i4 49 (by decide) (by decide)]; exact f7
      have e8 : I5 49 8 = nI 1 := by rw [hX 49 8 (by decide) (by decide) (by omega), i4 49 (by decide) (by decide)]; exact f8
      have hR : MR S T c I5 J5 := ⟨fun z => absurd z qz, fun _ => ⟨h9, hMd⟩⟩
      refine hQ ow4 g4 I5 J5 ⟨s1, s2, s3, s4, fun a h6 h7 => ?_, fun a h6 h7 h8 => ?_, fun a h6 h7 h8 => ?_⟩ ⟨Or.inr ⟨e8, TGs_q (fun a h6 h7 => ?_) ?_ hT3⟩, ?_, Or.inr ⟨c, hc, e7, hR⟩⟩ e7 hR
      · rw [x5 a (by omega) (by omega) (by omega), i4 a h6 (by omega), f1 a (by omega)]; exact h1 a (by omega)
      · rw [y5 a h7, j4 a h6, f2 a h7]; exact J2r a h8
      · have := s6 a h6 h7 h8
        rw [x5 a (by omega) (by omega) (by omega), y5 a (by omega), this.1, this.2, f1 a (by omega), f2 a (by omega)]
        exact ⟨h1 a (by omega), J2r a (by omega)⟩
      · rw [x5 a (by omega) (by omega) (by omega), i4 a (by omega) (by omega)]
      · rw [y5 50 (by decide), j4 50 (by decide)]
      · refine GTd_c s3 (x5 84 (by decide) (by decide) (by decide)) (fun a ha => ⟨x5 a (by omega) (by omega) (by omega), y5 a (by omega)⟩) s7
    · intro n hn ih hn1 I5 J5 hX hXJ h9 hMd v1
      have x5 : ∀ a, a ≠ 85 → a ≠ 86 → a ≠ 49 → I5 a = I4 a := fun a => XT_a hX
      have y5 : ∀ a, a ≠ 49 → J5 a = J4 a := fun a => XJ_a hXJ
      have e7 : I5 49 7 = nI c := by rw [hX 49 7 (by decide) (by decide) (by omega), i4 49 (by decide) (by decide)]; exact f7
      have skip : ¬ inM c n → ∀ v1, a_wp aTab aMX (d + 6) m_Maker_solve 126 [.ref 49, v1, .int (nI n)] [] (g4, I5, J5) Q := by
        intro hm v1
        rw [b_Maker_solve_126, nadd]
        have z := wM_n (fu := 2 ^ tCells T - 1) (A := fun f => plL S T f (nPl S)) hm
        exact ih (by omega) I5 J5 hX hXJ (by rw [fb_sm_succ, z]; exact h9) (MADE_s hMd z) _
      have hpc : pcI (nI n) = sz n := sz_pc ⟨n, hn⟩
      have hz1 : 1 ≤ sz n := sz_p ⟨n, hn⟩ (by show n ≠ 0; omega)
      have hz6 : sz n ≤ 6 := fb_ct_le _ 6
      rw [b_Maker_solve_96, rlt (by omega) (by omega), if_pos hn, b_Maker_solve_102 hg4, e7, rsub hn hc]
      by_cases q1 : n &&& c = n
      rotate_left
      · rw [if_neg q1]
        exact skip (fun w => q1 w.2.1) _
      rw [if_pos q1, b_Maker_solve_113, c_bitI, hpc]
      simp only [exI]
      rw [b_Maker_solve_117, rlt (by omega) (by omega)]
      by_cases q2 : 3 < sz n
      · rw [if_pos q2]
        exact skip (fun w => by have := w.2.2; omega) _
      rw [if_neg q2, b_Maker_solve_121 hg4]
      have hm : inM c n := ⟨by omega, q1, by omega⟩
      refine c_trySet (fu := 2 ^ tCells T - 1) (A := fun f => plL S T f (nPl S)) (W := fb_sm (wM (2 ^ tCells T - 1) (fun f => plL S T f (nPl S)) c) n) hg4 hn hz1 (by omega) (fun f hf hb => ?_) hL hfu ?_ h9 ?_
      · have w := hA f hf (inM_bit hm hb)
        exact ⟨w.1, PI_y w.1.1 hX hXJ w.2⟩
      · rw [y5 50 (by decide), j4 50 (by decide), f2 50 (by decide)]; exact eJ
      · intro I6 J6 hX6 hXJ6 h96 hR6
        simp only [exV, true_and]
        rw [b_Maker_solve_126, nadd]
        refine ih (by omega) I6 J6 (XT_t hX hX6) (XJ_t hXJ hXJ6) ?_ (MADE_R hn hm hMd hR6) _
        rw [fb_sm_succ, wM_y hm]
        exact h96
    · rw [j4 49 (by decide), g9]
      show lN 0 = lN (0 + wM _ _ c 0)
      rw [t0]
    · refine ⟨fun _ => ⟨?_, ?_⟩, fun z => absurd ?_ z⟩
      · rw [i4 49 (by decide) (by decide)]; exact g0
      · rw [i4 49 (by decide) (by decide)]; exact g10
      · show 0 + wM _ _ c 0 = 0
        rw [t0]
  rw [u2_k (by decide)]
  rcases m1 with w | ⟨w, hT⟩
  · rw [w, if_pos rfl, b_Maker_solve_21 hg]
    have hS2 : CS S (u2 I 49 7 (nI c)) := ⟨fun a k h6 h7 => by rw [u2_a (by omega)]; exact hS.1 a k h6 h7, hS.2⟩
    refine c_tLookAt (S := S) hg hS2 (by rw [u2_r (by decide), ← eT]; exact hc64) ?_
    intro I2 J2 h1 h2 h3
    rw [u2_r (show 14 ≠ 49 by decide), ← eT] at h3
    simp only [exV, true_and]
    rw [b_Maker_solve_32 hg]
    refine at37 _ J2 (fun a ha => ?_) h2 ?_ ?_ ?_ _
    · rw [u2_r (by omega), h1 a (by omega), u2_r (by omega)]
    · rw [u2_k (by decide), h1 49 (by omega), u2_s]
    · rw [u2_s]
    · exact TGs_q (fun a h6 h7 => u2_r (by omega)) rfl h3
  · rw [w, if_neg (by decide)]
    refine at37 _ J (fun a ha => u2_r (by omega)) (fun _ _ _ => rfl) u2_s ?_ ?_ _
    · rw [u2_k (by decide)]; exact w
    · exact TGs_q (fun a h6 h7 => u2_r (by omega)) rfl hT
theorem c_forget (hg : Geo g) (hQ : ∀ I', (∀ a k, a ≠ 84 → ¬ (a = 49 ∧ (k = 7 ∨ k = 8)) → I' a k = I a k) → I' 49 7 = (-1 : Int32) → I' 49 8 = nI 0 → (∀ f, f < 6 → I' 84 f = nI 0) → Q none (g, I', J)) : a_call aTab aMX (d + 1) m_Maker_forget [.ref 49] (g, I, J) Q := by
  rw [e_Maker_forget, b_Maker_forget_0 hg]
  refine dn (P := fun f => ∀ I2, (∀ a k, a ≠ 84 → ¬ (a = 49 ∧ (k = 7 ∨ k = 8)) → I2 a k = I a k) → I2 49 7 = (-1 : Int32) → I2 49 8 = nI 0 → (∀ f', f' < f → I2 84 f' = nI 0) → a_wp aTab aMX d m_Maker_forget 12 [.ref 49, .int (nI f)] [] (g, I2, J) Q) (n := 6) ?_ ?_ 0 (by omega) _ ?_ ?_ ?_ (fun f' h => absurd h (by omega))
  · intro I2 h1 h2 h3 h4
    simp (disch := omega) only [b_Maker_forget_12, b_Maker_forget_31, ↓reduceIte, nadd, nmul, nsub, nlt, neq, ncl, nvi, ndiv, nrem, exI, exJ, exV, eq_self, true_and, and_true, true_or, or_true, if_true, if_false, not_true, not_false_eq_true, false_and, and_false, decide_true, decide_false, bi_T, bi_F, bi_0, bi_1, bi_z, bft, n10, n01, Nat.reduceEqDiff, Nat.reduceLT, Nat.reduceAdd, Nat.reduceMul, reduceCtorEq, Nat.lt_irrefl]
    exact hQ I2 h1 h2 h3 h4
  · intro f hf ih I2 h1 h2 h3 h4
    rw [b_Maker_forget_12]
    simp (disch := omega) only [b_Maker_forget_18 hg, ↓reduceIte, nadd, nmul, nsub, nlt, neq, ncl, nvi, ndiv, nrem, exI, exJ, exV, eq_self, true_and, and_true, true_or, or_true, if_true, if_false, not_true, not_false_eq_true, false_and, and_false, decide_true, decide_false, bi_T, bi_F, bi_0, bi_1, bi_z, bft, n10, n01, Nat.reduceEqDiff, Nat.reduceLT, Nat.reduceAdd, Nat.reduceMul, reduceCtorEq, hf]
    refine ih _ (fun a k h5 h6 => by rw [u2_a h5]; exact h1 a k h5 h6) (by rw [u2_a (by decide)]; exact h2) (by rw [u2_a (by decide)]; exact h3) (fun f' h5 => ?_)
    by_cases q : f' = f
    · rw [q, u2_s]
    · rw [u2_k q]; exact h4 f' (by omega)
  · intro a k h5 h6
    rw [show u2 (u2 I 49 7 (-1 : Int32)) 49 8 (nI 0) a k = u2 I 49 7 (-1 : Int32) a k from if_neg (by omega), show u2 I 49 7 (-1 : Int32) a k = I a k from if_neg (by omega)]
  · rw [u2_k (by decide), u2_s]
  · exact u2_s
theorem MC_0 (h7 : I 49 7 = (-1 : Int32)) (h8 : I 49 8 = nI 0) (h84 : ∀ f, f < 6 → I 84 f = nI 0) : MC S T g I J := ⟨Or.inl h8, fun f hf => Or.inl (h84 f hf), Or.inl h7⟩
end SOL
