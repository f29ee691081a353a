/-! ===== the class gathers the shadows of a cast ===== -/
def nl (g : aG) : Nat := fb_ct (fun f => decide (gR g 83 f = 0)) 6
def PW (ow : Nat → Nat) (g : aG) : Prop := ∀ f, f < 6 → gR g 83 f = 0 ∨ (PO g (gR g 83 f) ∧ gR g 83 f + 7 ≤ gx g ∧ ∀ a, gR g 83 f ≤ a → a < gR g 83 f + 7 → ow a = 1 + f)
/-- only Prints are new -/
def Gp (g g' : aG) : Prop := gx g ≤ gx g' ∧ ∀ a, a < gx g → gK g' a = gK g a ∧ gN g' a = gN g a ∧ ∀ k, (a ≠ 83 ∨ gR g a k ≠ 0) → gR g' a k = gR g a k
theorem Gp_r (g : aG) : Gp g g := ⟨Nat.le_refl _, fun _ _ => ⟨rfl, rfl, fun _ _ => rfl⟩⟩
theorem Gp_t {g g' g2 : aG} (h1 : Gp g g') (h2 : Gp g' g2) : Gp g g2 := by
  refine ⟨Nat.le_trans h1.1 h2.1, fun a ha => ?_⟩
  have w := h1.2 a ha
  have w2 := h2.2 a (Nat.lt_of_lt_of_le ha h1.1)
  refine ⟨w2.1.trans w.1, w2.2.1.trans w.2.1, fun k hk => ?_⟩
  have e := w.2.2 k hk
  rw [w2.2.2 k (by rw [e]; exact hk), e]
theorem Gp_geo {g g' : aG} (hx : 123 ≤ gx g) (h : Gp g g') (hg : Geo g) : Geo g' := Geo_c hg (fun a ha => ⟨(h.2 a (by omega)).1, (h.2 a (by omega)).2.1, fun k hk => (h.2 a (by omega)).2.2 k (Or.inl (fun z => hk (Or.inr (Or.inl z))))⟩)
theorem PO_p {g g' : aG} {p : Nat} (h : Gp g g') (hp : p + 7 ≤ gx g) (hP : PO g p) : PO g' p := by
  have h0 := hP.1
  have e : ∀ a, p ≤ a → a < p + 7 → gK g' a = gK g a ∧ gN g' a = gN g a ∧ ∀ k, gR g' a k = gR g a k := fun a h1 h2 => ⟨(h.2 a (by omega)).1, (h.2 a (by omega)).2.1, fun k => (h.2 a (by omega)).2.2 k (Or.inl (by omega))⟩
  unfold PO at hP ⊢
  rw [(e p (by omega) (by omega)).1, (e p (by omega) (by omega)).2.2, (e p (by omega) (by omega)).2.2, (e p (by omega) (by omega)).2.2, (e p (by omega) (by omega)).2.2, (e p (by omega) (by omega)).2.2, (e p (by omega) (by omega)).2.2, (e (p + 1) (by omega) (by omega)).1, (e (p + 1) (by omega) (by omega)).2.1, (e (p + 2) (by omega) (by omega)).1, (e (p + 2) (by omega) (by omega)).2.1, (e (p + 3) (by omega) (by omega)).1, (e (p + 3) (by omega) (by omega)).2.1, (e (p + 4) (by omega) (by omega)).1, (e (p + 4) (by omega) (by omega)).2.1, (e (p + 5) (by omega) (by omega)).1, (e (p + 5) (by omega) (by omega)).2.1, (e (p + 6) (by omega) (by omega)).1, (e (p + 6) (by omega) (by omega)).2.1]
  exact hP
theorem PI_c {p : Nat} {L : List (Nat × Nat)} {I I' : Nat → Nat → Int32} {J J' : Nat → Nat → Int64} (h : ∀ a, p ≤ a → a < p + 7 → I' a = I a ∧ J' a = J a) (hP : PI p L I J) : PI p L I' J' := by
  unfold PI at hP ⊢
  rw [(h p (by omega) (by omega)).1, (h p (by omega) (by omega)).2, (h (p + 1) (by omega) (by omega)).2, (h (p + 2) (by omega) (by omega)).1, (h (p + 3) (by omega) (by omega)).2, (h (p + 4) (by omega) (by omega)).1, (h (p + 5) (by omega) (by omega)).1, (h (p + 6) (by omega) (by omega)).1]
  exact hP
def GTd (S : Nat → Nat → Nat) (T : Nat → Int32) (g : aG) (I : Nat → Nat → Int32) (J : Nat → Nat → Int64) : Prop := ∀ f, f < 6 → I 84 f = nI 0 ∨ (I 84 f = nI 1 ∧ gR g 83 f ≠ 0 ∧ PI (gR g 83 f) (plL S T f (nPl S)) I J)
def GS (S : Nat → Nat → Nat) (T : Nat → Int32) (ow : Nat → Nat) (g : aG) (I : Nat → Nat → Int32) (J : Nat → Nat → Int64) (ow2 : Nat → Nat) (g2 : aG) (I2 : Nat → Nat → Int32) (J2 : Nat → Nat → Int64) : Prop := Gp g g2 ∧ (gx g2 + 7 * nl g2 = gx g + 7 * nl g ∧ gs g2 + 6697 * nl g2 = gs g + 6697 * nl g) ∧ PW ow2 g2 ∧ (∀ a, a < gx g → ow2 a = ow a) ∧ (∀ a, a < 123 → (a ≠ 84 → I2 a = I a) ∧ J2 a = J a) ∧ (∀ a, 123 ≤ a → a < gx g → ¬ (1 ≤ ow a ∧ ow a ≤ 6) → I2 a = I a ∧ J2 a = J a) ∧ GTd S T g2 I2 J2
section GCA
variable {d : Nat} {g : aG} {I : Nat → Nat → Int32} {J : Nat → Nat → Int64} {Q : aQ} {S : Nat → Nat → Nat} {T : Nat → Int32}
theorem TGs_q {I' : Nat → Nat → Int32} {J' : Nat → Nat → Int64} (e : ∀ a, 50 ≤ a → a ≤ 82 → I' a = I a) (e2 : J' 50 1 = J 50 1) (hT : TGs S T I J) : TGs S T I' J' := by
  have ht : ∀ dp, dp ≤ min 8 (S 10 0) → dp ≤ 8 := fun dp h => by omega
  refine ⟨?_, ?_, ?_, ?_, ?_⟩
  · rw [e 50 (by omega) (by omega)]; exact hT.1
  · rw [e2]; exact hT.2.1
  · rw [e 50 (by omega) (by omega)]; exact hT.2.2.1
  · rw [e 51 (by omega) (by omega), e 52 (by omega) (by omega)]; exact hT.2.2.2.1
  · intro dp h1 h2
    have h3 := ht dp h2
    have := hT.2.2.2.2 dp h1 h2
    unfold tgd at this ⊢
    rw [e (54 + dp) (by omega) (by omega), e (64 + dp) (by omega) (by omega), e (74 + dp) (by omega) (by omega)]
    exact this
theorem PW_new {ow : Nat → Nat} {f : Nat} (hx : 123 ≤ gx g) (hP : PW ow g) (hf : f < 6) (h0 : gR g 83 f = 0) : Gp g (gput (gPr g) 83 f (gx g)) ∧ (gx (gput (gPr g) 83 f (gx g)) + 7 * nl (gput (gPr g) 83 f (gx g)) = gx g + 7 * nl g ∧ gs (gput (gPr g) 83 f (gx g)) + 6697 * nl (gput (gPr g) 83 f (gx g)) = gs g + 6697 * nl g) ∧ PW (fun a => if gx g ≤ a then 1 + f else ow a) (gput (gPr g) 83 f (gx g)) ∧ gR (gput (gPr g) 83 f (gx g)) 83 f = gx g ∧ ∀ k, k ≠ f → gR (gput (gPr g) 83 f (gx g)) 83 k = gR g 83 k := by
  obtain ⟨p1, p2, p3, p4⟩ := gPr_ok hx
  have G1 : Gp g (gPr g) := ⟨by omega, fun a ha => ⟨(p4 a ha).1, (p4 a ha).2.1, fun k _ => (p4 a ha).2.2 k⟩⟩
  have e83 : ∀ k, gR (gput (gPr g) 83 f (gx g)) 83 k = if k = f then gx g else gR g 83 k := by
    intro k
    rw [gR_put]
    by_cases q : k = f
    · rw [if_pos ⟨rfl, q⟩, if_pos q]
    · rw [if_neg (fun z => q z.2), if_neg q]; exact (p4 83 (by omega)).2.2 k
  have G2 : Gp (gPr g) (gput (gPr g) 83 f (gx g)) := by
    refine ⟨Nat.le_refl _, fun a ha => ⟨rfl, rfl, fun k hk => ?_⟩⟩
    rw [gR_put, if_neg]
    rintro ⟨rfl, rfl⟩
    rw [(p4 83 (by omega)).2.2, h0] at hk
    exact hk.elim (fun z => z rfl) (fun z => z rfl)
  have G3 := Gp_t G1 G2
  have eg : gx (gput (gPr g) 83 f (gx g)) = gx g + 7 := p2
  have egs : gs (gput (gPr g) 83 f (gx g)) = gs g + 6697 := p3
  have en : nl (gput (gPr g) 83 f (gx g)) + 1 = nl g := by
    unfold nl
    rw [fb_ct_cong (q := fun k => if k = f then false else decide (gR g 83 k = 0)) (fun k hk => by
      rw [e83]
      by_cases q : k = f
      · rw [if_pos q, if_pos q]; exact decide_eq_false (by omega)
      · rw [if_neg q, if_neg q])]
    have := fb_ct_upd (fun k => decide (gR g 83 k = 0)) false hf
    rw [decide_eq_true h0] at this
    exact this
  refine ⟨G3, ⟨by omega, by omega⟩, ?_, ?_, ?_⟩
  · intro f' hf'
    rw [e83]
    by_cases q : f' = f
    · right
      rw [if_pos q, q]
      refine ⟨PO_p G2 (by omega) p1, by omega, fun a h1 h2 => ?_⟩
      exact if_pos h1
    · rw [if_neg q]
      rcases hP f' hf' with w | ⟨w1, w2, w3⟩
      · exact Or.inl w
      · refine Or.inr ⟨PO_p G3 w2 w1, by omega, fun a h1 h2 => ?_⟩
        exact (if_neg (by omega)).trans (w3 a h1 h2)
  · rw [e83, if_pos rfl]
  · intro k hk
    rw [e83, if_neg hk]
theorem c_gatherCast {ow : Nat → Nat} {c : Nat} (hg : Geo g) (hx : 123 ≤ gx g) (hS : CS S I) (hT : TGs S T I J) (hc64 : tCells T ≤ 64) (hP : PW ow g) (hG : GTd S T g I J) (hc : c < 64) (h7 : I 49 7 = nI c) (hQ : ∀ ow' g' I' J', GS S T ow g I J ow' g' I' J' → (∀ f, f < 6 → c.testBit f = true → I' 84 f = nI 1) → Q none (g', I', J')) : a_call aTab aMX (d + 5) m_Maker_gatherCast [.ref 49] (g, I, J) Q := by
  rw [e_Maker_gatherCast, b_Maker_gatherCast_0]
  refine dn (P := fun f => ∀ ow2 g2 I2 J2, GS S T ow g I J ow2 g2 I2 J2 → (∀ f', f' < f → c.testBit f' = true → I2 84 f' = nI 1) → a_wp aTab aMX (d + 4) m_Maker_gatherCast 2 [.ref 49, .int (nI f)] [] (g2, I2, J2) Q) (n := 6) ?_ ?_ 0 (by omega) ow g I J ⟨Gp_r g, ⟨rfl, rfl⟩, hP, fun _ _ => rfl, fun _ _ => ⟨fun _ => rfl, rfl⟩, fun _ _ _ _ => ⟨rfl, rfl⟩, hG⟩ (fun f' h => absurd h (by omega))
  · intro ow2 g2 I2 J2 hs hb
    simp (disch := omega) only [b_Maker_gatherCast_2, b_Maker_gatherCast_82, ↓reduceIte, nadd, nmul, nsub, nlt, neq, ncl, nvi, ndiv, nrem, exI, exJ, exV, eq_self, true_and, and_true, true_or, or_true, if_true, if_false, not_true, not_false_eq_true, false_and, and_false, decide_true, decide_false, bi_T, bi_F, bi_0, bi_1, bi_z, bft, n10, n01, Nat.reduceEqDiff, Nat.reduceLT, Nat.reduceAdd, Nat.reduceMul, reduceCtorEq, Nat.lt_irrefl]
    exact hQ ow2 g2 I2 J2 hs hb
  · intro f hf ih ow2 g2 I2 J2 hs hb
    have hg2 := Gp_geo hx hs.1 hg
    have hx2 : 123 ≤ gx g2 := Nat.le_trans hx hs.1.1
    have e7 : I2 49 7 = nI c := by rw [(hs.2.2.2.2.1 49 (by omega)).1 (by decide)]; exact h7
    rw [b_Maker_gatherCast_2, rlt (by omega) (by omega), if_pos hf, b_Maker_gatherCast_8 hg2, e7, rbt (by omega)]
    cases qb : c.testBit f
    · rw [if_neg (by decide), b_Maker_gatherCast_76, nadd]
      refine ih ow2 g2 I2 J2 hs (fun f' h1 h2 => ?_)
      by_cases q : f' = f
      · rw [q, qb] at h2; cases h2
      · exact hb f' (by omega) h2
    rw [if_pos rfl]
    have e84 : I2 84 f = nI 0 ∨ I2 84 f = nI 1 := (hs.2.2.2.2.2.2 f hf).elim Or.inl (fun w => Or.inr w.1)
    rcases e84 with e84 | e84
    rotate_left
    · simp (disch := omega) only [b_Maker_gatherCast_20 hg2, b_Maker_gatherCast_76, ↓reduceIte, nadd, nmul, nsub, nlt, neq, ncl, nvi, ndiv, nrem, exI, exJ, exV, eq_self, true_and, and_true, true_or, or_true, if_true, if_false, not_true, not_false_eq_true, false_and, and_false, decide_true, decide_false, bi_T, bi_F, bi_0, bi_1, bi_z, bft, n10, n01, Nat.reduceEqDiff, Nat.reduceLT, Nat.reduceAdd, Nat.reduceMul, reduceCtorEq, hf, e84, Nat.one_ne_zero]
      refine ih ow2 g2 I2 J2 hs (fun f' h1 h2 => ?_)
      by_cases q : f' = f
      · rw [q]; exact e84
      · exact hb f' (by omega) h2
    have at51 : ∀ ow3 g3 I3 J3, GS S T ow g I J ow3 g3 I3 J3 → gR g3 83 f ≠ 0 → (∀ f', f' < f → c.testBit f' = true → I3 84 f' = nI 1) → a_wp aTab aMX (d + 4) m_Maker_gatherCast 51 [.ref 49, .int (nI f)] [] (g3, I3, J3) Q := by
      intro ow3 g3 I3 J3 hs3 hn3 hb3
      obtain ⟨s1, s2, s3, s4, s5, s6, s7⟩ := hs3
      have hg3 := Gp_geo hx s1 hg
      rcases s3 f hf with w | ⟨w1, w2, w3⟩
      · exact absurd w hn3
      have w0 := w1.1
      have k0 := w1.2.1
      have hS3 : CS S I3 := ⟨fun a k h1 h2 => by rw [(s5 a (by omega)).1 (by omega)]; exact hS.1 a k h1 h2, hS.2⟩
      have hT3 : TGs S T I3 J3 := TGs_q (fun a h1 h2 => (s5 a (by omega)).1 (by omega)) (by rw [(s5 50 (by omega)).2]) hT
      rw [b_Maker_gatherCast_51 hg3]
      simp (disch := omega) only [↓reduceIte, nadd, nmul, nsub, nlt, neq, ncl, nvi, ndiv, nrem, exI, exJ, exV, eq_self, true_and, and_true, true_or, or_true, if_true, if_false, not_true, not_false_eq_true, false_and, and_false, decide_true, decide_false, bi_T, bi_F, bi_0, bi_1, bi_z, bft, n10, n01, Nat.reduceEqDiff, Nat.reduceLT, Nat.reduceAdd, Nat.reduceMul, reduceCtorEq, hf, k0]
      refine c_gather hg3 hS3 hT3 hc64 w1 hf ?_
      intro I4 J4 hF hPI
      simp (disch := omega) only [b_Maker_gatherCast_69 hg3, b_Maker_gatherCast_76, ↓reduceIte, nadd, nmul, nsub, nlt, neq, ncl, nvi, ndiv, nrem, exI, exJ, exV, eq_self, true_and, and_true, true_or, or_true, if_true, if_false, not_true, not_false_eq_true, false_and, and_false, decide_true, decide_false, bi_T, bi_F, bi_0, bi_1, bi_z, bft, n10, n01, Nat.reduceEqDiff, Nat.reduceLT, Nat.reduceAdd, Nat.reduceMul, reduceCtorEq, hf]
      have nin : ∀ a, ¬ ow3 a = 1 + f → I4 a = I3 a ∧ J4 a = J3 a := by
        intro a ha
        refine hF a (fun z => ha (w3 a z.1 (by omega)))
      have low : ∀ a, a < 123 → I4 a = I3 a ∧ J4 a = J3 a := fun a ha => hF a (by omega)
      refine ih ow3 g3 _ J4 ⟨s1, s2, s3, s4, fun a ha => ⟨fun h84 => ?_, ?_⟩, fun a h1 h2 h3 => ?_, fun f' hf' => ?_⟩ (fun f' h1 h2 => ?_)
      · rw [u2_r h84, (low a ha).1]; exact (s5 a ha).1 h84
      · rw [(low a ha).2]; exact (s5 a ha).2
      · have := nin a (by rw [s4 a h2]; omega)
        rw [u2_r (by omega), this.1, this.2]
        exact s6 a h1 h2 h3
      · by_cases q : f' = f
        · right
          rw [q]
          exact ⟨u2_s, hn3, PI_c (fun a h1 h2 => ⟨u2_r (by omega), rfl⟩) hPI⟩
        · rw [u2_k q, (low 84 (by omega)).1]
          rcases s7 f' hf' with w | ⟨y1, y2, y3⟩
          · exact Or.inl w
          · right
            rcases s3 f' hf' with z | ⟨z1, z2, z3⟩
            · exact absurd z y2
            have z0 := z1.1
            refine ⟨y1, y2, PI_c (fun a h1 h2 => ?_) y3⟩
            have := nin a (by rw [z3 a h1 h2]; omega)
            rw [u2_r (by omega)]
            exact this
      · by_cases q : f' = f
        · rw [q, u2_s]
        · rw [u2_k q, (low 84 (by omega)).1]
          exact hb3 f' (by omega) h2
    simp (disch := omega) only [b_Maker_gatherCast_20 hg2, ↓reduceIte, nadd, nmul, nsub, nlt, neq, ncl, nvi, ndiv, nrem, exI, exJ, exV, eq_self, true_and, and_true, true_or, or_true, if_true, if_false, not_true, not_false_eq_true, false_and, and_false, decide_true, decide_false, bi_T, bi_F, bi_0, bi_1, bi_z, bft, n10, n01, Nat.reduceEqDiff, Nat.reduceLT, Nat.reduceAdd, Nat.reduceMul, reduceCtorEq, hf, e84]
    rw [b_Maker_gatherCast_29 hg2]
    simp (disch := omega) only [↓reduceIte, nadd, nmul, nsub, nlt, neq, ncl, nvi, ndiv, nrem, exI, exJ, exV, eq_self, true_and, and_true, true_or, or_true, if_true, if_false, not_true, not_false_eq_true, false_and, and_false, decide_true, decide_false, bi_T, bi_F, bi_0, bi_1, bi_z, bft, n10, n01, Nat.reduceEqDiff, Nat.reduceLT, Nat.reduceAdd, Nat.reduceMul, reduceCtorEq, hf]
    by_cases qn : gR g2 83 f = 0
    rotate_left
    · rw [if_neg qn]
      exact at51 ow2 g2 I2 J2 hs qn hb
    rw [if_pos qn, b_Maker_gatherCast_38 hg2]
    have kn : gK (gnew g2 5 9) (gx g2) = 5 := by rw [gK_new, if_pos rfl]
    refine ⟨kn, c_pInit hx2 ?_⟩
    intro I3 J3 hI3
    obtain ⟨s1, s2, s3, s4, s5, s6, s7⟩ := hs
    obtain ⟨n1, n2, n3, n4, n5⟩ := PW_new hx2 s3 hf qn
    have hgP : Geo (gPr g2) := Gp_geo hx2 ⟨by rw [(gPr_ok hx2).2.1]; omega, fun a ha => ⟨((gPr_ok hx2).2.2.2 a ha).1, ((gPr_ok hx2).2.2.2 a ha).2.1, fun k _ => ((gPr_ok hx2).2.2.2 a ha).2.2 k⟩⟩ hg2
    have kp : gK (gPr g2) (gx g2) = 5 := (gPr_ok hx2).1.2.1
    simp (disch := omega) only [b_Maker_gatherCast_50 hgP, ↓reduceIte, nadd, nmul, nsub, nlt, neq, ncl, nvi, ndiv, nrem, exI, exJ, exV, eq_self, true_and, and_true, true_or, or_true, if_true, if_false, not_true, not_false_eq_true, false_and, and_false, decide_true, decide_false, bi_T, bi_F, bi_0, bi_1, bi_z, bft, n10, n01, Nat.reduceEqDiff, Nat.reduceLT, Nat.reduceAdd, Nat.reduceMul, reduceCtorEq, hf, kp]
    refine at51 (fun a => if gx g2 ≤ a then 1 + f else ow2 a) _ I3 J3 ⟨Gp_t s1 n1, ⟨n2.1.trans s2.1, n2.2.trans s2.2⟩, n3, fun a ha => ?_, fun a ha => ⟨fun h84 => ?_, ?_⟩, fun a h1 h2 h3 => ?_, fun f' hf' => ?_⟩ (by rw [n4]; omega) (fun f' h1 h2 => ?_)
    · have := s1.1
      exact (if_neg (by omega)).trans (s4 a ha)
    · rw [(hI3 a (by omega)).1]; exact (s5 a ha).1 h84
    · rw [(hI3 a (by omega)).2]; exact (s5 a ha).2
    · have := s1.1
      rw [(hI3 a (by omega)).1, (hI3 a (by omega)).2]
      exact s6 a h1 h2 h3
    · rw [(hI3 84 (by omega)).1]
      rcases s7 f' hf' with w | ⟨y1, y2, y3⟩
      · exact Or.inl w
      · right
        have q : f' ≠ f := fun z => y2 (by rw [z]; exact qn)
        rcases s3 f' hf' with z | ⟨z1, z2, z3⟩
        · exact absurd z y2
        rw [n5 f' q]
        exact ⟨y1, y2, PI_c (fun a h1 h2 => hI3 a (by omega)) y3⟩
    · rw [(hI3 84 (by omega)).1]
      exact hb f' h1 h2
end GCA
