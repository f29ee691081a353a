/-! ===== findLeast of the class ===== -/
theorem rT_ok : ∀ i : Fin 124, (rT.getD i.1 (0, 0, 0)).1 < 123 ∧ ¬ ((rT.getD i.1 (0, 0, 0)).1 = 44 ∧ ((rT.getD i.1 (0, 0, 0)).2.1 = 6 ∨ (rT.getD i.1 (0, 0, 0)).2.1 = 7)) ∧ (rT.getD i.1 (0, 0, 0)).1 ≠ 83 ∧ (rT.getD i.1 (0, 0, 0)).1 ≠ 21 := by decide +kernel
def spR (a k : Nat) : Prop := (a = 44 ∧ (k = 6 ∨ k = 7)) ∨ a = 83 ∨ a = 21
theorem Geo_c {g g' : aG} (hg : Geo g) (h : ∀ a, a < 123 → gK g' a = gK g a ∧ gN g' a = gN g a ∧ ∀ k, ¬ spR a k → gR g' a k = gR g a k) : Geo g' := by
  refine ⟨fun a h1 h2 => ?_, fun a h1 h2 => ?_, fun i hi => ?_⟩
  · rw [(h a h2).1]; exact hg.1 a h1 h2
  · rw [(h a h2).2.1]; exact hg.2.1 a h1 h2
  · have r := rT_ok ⟨i, hi⟩
    have := (h _ r.1).2.2 (rT.getD i (0, 0, 0)).2.1 (by
      rintro (z | z | z)
      · exact r.2.1 z
      · exact r.2.2.1 z
      · exact r.2.2.2 z)
    rw [this]
    exact hg.2.2 i hi
/-- only the Planner's two rows of rows are new -/
def Gx (g g' : aG) : Prop := gx g ≤ gx g' ∧ ∀ a, a < gx g → gK g' a = gK g a ∧ gN g' a = gN g a ∧ ∀ k, ¬ (a = 44 ∧ (k = 6 ∨ k = 7)) → gR g' a k = gR g a k
theorem Gx_geo {g g' : aG} (hx : 123 ≤ gx g) (h : Gx g g') (hg : Geo g) : Geo g' := Geo_c hg (fun a ha => ⟨(h.2 a (by omega)).1, (h.2 a (by omega)).2.1, fun k hk => (h.2 a (by omega)).2.2 k (fun z => hk (Or.inl z))⟩)
def gPl (g : aG) : aG := gput (gmul (gput (gmul g 17 12 12 4096) 44 6 (gx g)) 18 13 2 4096) 44 7 (gx g + 13)
theorem gs_gput {g : aG} {a k b : Nat} : gs (gput g a k b) = gs g := rfl
theorem gs_gmul {g : aG} {kd ki n m : Nat} : gs (gmul g kd ki n m) = gs g + n + n * m := rfl
theorem gPl_ok {g : aG} (hx : 123 ≤ gx g) : PG (gPl g) (gx g) ∧ Gx g (gPl g) ∧ gx (gPl g) = gx g + 16 ∧ gs (gPl g) = gs g + 57358 := by
  have e1 : gx (gput (gmul g 17 12 12 4096) 44 6 (gx g)) = gx g + 13 := rfl
  have e2 : gx (gPl g) = gx g + 16 := rfl
  have e3 : gs (gPl g) = gs g + 12 + 12 * 4096 + 2 + 2 * 4096 := by unfold gPl; rw [gs_gput, gs_gmul, gs_gput, gs_gmul]
  have eK : ∀ a, gK (gPl g) a = if a = gx g + 13 then 18 else if gx g + 13 < a ∧ a ≤ gx g + 13 + 2 then 13 else if a = gx g then 17 else if gx g < a ∧ a ≤ gx g + 12 then 12 else gK g a := fun a => rfl
  have eN : ∀ a, gN (gPl g) a = if a = gx g + 13 then 2 else if gx g + 13 < a ∧ a ≤ gx g + 13 + 2 then 4096 else if a = gx g then 12 else if gx g < a ∧ a ≤ gx g + 12 then 4096 else gN g a := fun a => rfl
  have eR : ∀ a k, gR (gPl g) a k = if a = 44 ∧ k = 7 then gx g + 13 else if a = gx g + 13 then (if k < 2 then gx g + 13 + 1 + k else 0) else if gx g + 13 < a ∧ a ≤ gx g + 13 + 2 then 0 else if a = 44 ∧ k = 6 then gx g else if a = gx g then (if k < 12 then gx g + 1 + k else 0) else if gx g < a ∧ a ≤ gx g + 12 then 0 else gR g a k := fun a k => rfl
  generalize gPl g = g' at *
  refine ⟨⟨hx, ?_, ?_, ?_, ?_, ?_, ?_, ?_, ?_⟩, ⟨by omega, ?_⟩, e2, ?_⟩
  · rw [eR, if_neg (by omega), if_neg (by omega), if_neg (by omega), if_pos ⟨rfl, rfl⟩]
  · rw [eR, if_pos ⟨rfl, rfl⟩]
  · rw [eK, if_neg (by omega), if_neg (by omega), if_pos rfl]
  · rw [eN, if_neg (by omega), if_neg (by omega), if_pos rfl]
  · intro i hi
    refine ⟨?_, ?_, ?_⟩
    · rw [eR, if_neg (by omega), if_neg (by omega), if_neg (by omega), if_neg (by omega), if_pos rfl, if_pos hi]
    · rw [eK, if_neg (by omega), if_neg (by omega), if_neg (by omega), if_pos (by omega)]
    · rw [eN, if_neg (by omega), if_neg (by omega), if_neg (by omega), if_pos (by omega)]
  · rw [eK, if_pos rfl]
  · rw [eN, if_pos rfl]
  · intro i hi
    refine ⟨?_, ?_, ?_⟩
    · rw [eR, if_neg (by omega), if_pos rfl, if_pos hi]
    · rw [eK, if_neg (by omega), if_pos (by omega)]
    · rw [eN, if_neg (by omega), if_pos (by omega)]
  · intro a ha
    refine ⟨?_, ?_, fun k hk => ?_⟩
    · rw [eK, if_neg (by omega), if_neg (by omega), if_neg (by omega), if_neg (by omega)]
    · rw [eN, if_neg (by omega), if_neg (by omega), if_neg (by omega), if_neg (by omega)]
    · rw [eR, if_neg (by omega), if_neg (by omega), if_neg (by omega), if_neg (by omega), if_neg (by omega), if_neg (by omega)]
  · exact e3.trans (by omega)
theorem dp_k {S : Nat → Nat → Nat} {LF : aLF} {b : Nat} (hb : b < 12) : dpS S LF (12 - b) = kpD S LF b (bkS S LF b (dpS S LF (11 - b)) 6) := by
  rw [show 12 - b = (11 - b) + 1 by omega]
  show (fun c => if isB S LF (11 - (11 - b)) c then bkS S LF (11 - (11 - b)) (dpS S LF (11 - b)) 6 c else (1000000, 0)) = _
  rw [show 11 - (11 - b) = b by omega]
  rfl
section FL
variable {d : Nat} {g : aG} {I : Nat → Nat → Int32} {J : Nat → Nat → Int64} {Q : aQ} {S : Nat → Nat → Nat} {LF : aLF}
theorem l94 {B : Nat} {W : Nat → Int32} (hg : Geo g) (hP : PG g B) (hS : CS S I) (hL : LJ LF I W) (hH : ∀ b, b < 12 → HB S LF I J b) (hfb : fbr S LF (S 10 2) = 12) (h12 : I 46 12 = nI 0) (hQ : ∀ I' J', (∀ a, a ∉ [34, 44, 45, 46, 47, 48] → ¬ (B + 1 ≤ a ∧ a ≤ B + 12) → I' a = I a) → (∀ a, a ≠ 35 → a ≠ B + 14 → a ≠ B + 15 → J' a = J a) → I' 44 0 = I 44 0 → I' 46 12 = nI 0 → PR S LF I' → Q (some (.int (bi (decide (lcS S LF < 1000000))))) (g, I', J')) : a_wp aTab aMX (d + 10) m_Planner_findLeast 94 [.ref 44, aU] [] (g, I, J) Q := by
  have hB := hS.2
  have ht := sb10 hB
  have hh : S 10 2 ≤ 3 := ht.2.2.2.1
  have hB1 := hP.1
  have hbase := base_ok hB hfb
  have em : ∀ c : Nat, nI c + (-1 : Int32) = nI c - nI 1 := fun c => by rw [Int32.sub_eq_add_neg]; rfl
  obtain ⟨OK, hOK⟩ : ∃ OK : (Nat → Nat → Int32) → Prop, OK = fun I2 => (∀ a, a ∉ [34, 44, 45, 46, 47, 48] → ¬ (B + 1 ≤ a ∧ a ≤ B + 12) → I2 a = I a) ∧ I2 44 0 = I 44 0 := ⟨_, rfl⟩
  have okS : ∀ I2, OK I2 → CS S I2 := by
    intro I2 h
    rw [hOK] at h
    exact ⟨fun a k h1 h2 => by rw [h.1 a (by simp; omega) (by omega)]; exact hS.1 a k h1 h2, hB⟩
  have okL : ∀ I2, OK I2 → LJ LF I2 W := by
    intro I2 h
    rw [hOK] at h
    exact LJ_cong (fun a h1 h2 => h.1 a (by simp; omega) (by omega)) (fun _ _ => rfl) hL
  obtain ⟨OJ, hOJ⟩ : ∃ OJ : (Nat → Nat → Int64) → Prop, OJ = fun J2 => ∀ a, a ≠ 35 → a ≠ B + 14 → a ≠ B + 15 → J2 a = J a := ⟨_, rfl⟩
  have okH : ∀ I2 J2, OK I2 → OJ J2 → ∀ b, b < 12 → HB S LF I2 J2 b := by
    intro I2 J2 h h2 b hb
    rw [hOK] at h
    rw [hOJ] at h2
    exact HB_c (h.1 38 (by simp) (by omega)) (h2 37 (by omega) (by omega) (by omega)) (hH b hb)
  have ok1 : OK I := by rw [hOK]; exact ⟨fun _ _ _ => rfl, rfl⟩
  have ok_u : ∀ I2 r k z, OK I2 → (r = 34 ∨ r = 45 ∨ r = 46 ∨ r = 47 ∨ r = 48 ∨ (r = 44 ∧ k ≠ 0)) → OK (u2 I2 r k z) := by
    intro I2 r k z h hr
    rw [hOK] at h ⊢
    refine ⟨fun a h1 h2 => ?_, ?_⟩
    · rw [u2_r (fun q => h1 (by rw [q]; simp; omega))]
      exact h.1 a h1 h2
    · rw [show u2 I2 r k z 44 0 = I2 44 0 from if_neg (by omega)]
      exact h.2
  -- the end
  have fin : ∀ I2 J2, OK I2 → OJ J2 → I2 46 12 = nI 0 → PR S LF I2 → a_wp aTab aMX (d + 10) m_Planner_findLeast 205 [.ref 44, aU] [] (g, I2, J2) Q := by
    intro I2 J2 h1 h2 h3 h4
    rw [hOK] at h1
    rw [hOJ] at h2
    rw [b_Planner_findLeast_205 hg, h4.1]
    simp (disch := omega) only [exI, exJ, exV, eq_self, true_and, and_true, true_or, or_true, if_true, if_false, not_true, not_false_eq_true, false_and, and_false, decide_true, decide_false, bi_T, bi_F, bi_0, bi_1, bi_z, bft, n10, n01, Nat.reduceEqDiff, Nat.reduceLT, Nat.reduceAdd, Nat.reduceMul, reduceCtorEq]
    exact hQ I2 J2 h1.1 h2 h1.2 h3 h4
  -- the beats
  have beats : ∀ k, k ≤ 12 → ∀ nw I2 J2, nw < 2 → OK I2 → OJ J2 → I2 44 13 = nI nw → I2 44 14 = nI (bas (S 10 2) (S 10 4)) → (∀ b, b < 13 → I2 46 b = nI (o2 S b)) → CD S LF 12 0 0 I2 → AR (54 * (12 - k)) (S 10 2) (S 10 4) (fun j => sOn2 S j k) (J2 (B + 14 + nw)) (dpS S LF (12 - k)) → (∀ b, k ≤ b → b < 12 → BR S b (I2 (B + 1 + b)) (dpS S LF (12 - b))) → a_wp aTab aMX (d + 10) m_Planner_findLeast 177 [.ref 44, .int (nI k - nI 1)] [] (g, I2, J2) Q := by
    intro k
    induction k with
    | zero =>
      intro _ nw I2 J2 hw g1 g2 g3 g4 g5 g6 g7 g8
      rw [b_Planner_findLeast_177, if_pos (show nI 0 - nI 1 < nI 0 by decide), b_Planner_findLeast_197 hg]
      refine c_sumUp (S := S) (D := dpS S LF 12) hg hB hP hw g3 g4 (g5 0 (by omega)) (show 54 * (12 - 0) ≤ 10000 by omega) (dpS_b 12 (Nat.le_refl _)) (by omega) ?_ g7 ?_
      · intro c hc hv
        apply Classical.byContradiction
        intro z
        rw [cst_vd hB (show 0 < 12 by decide) (show cst S LF 0 c ≠ 1000000 from z)] at hv
        cases hv
      · intro I3 r1 r2 r3
        refine ⟨rfl, ?_⟩
        have e1 : (lsF (dpS S LF 12) 4096).1 = lcS S LF := by unfold lcS; rfl
        have e2 : min 1000000000 (lsF (dpS S LF 12) 4096).2 = lwS S LF := by unfold lwS; rfl
        rw [e1] at r2 r3
        rw [e2] at r3
        have rr : ∀ a, a ≠ 44 → I3 a = I2 a := fun a ha => funext (fun k => r1 a k (by omega))
        have g1' : OK I3 := by
          rw [hOK] at g1 ⊢
          refine ⟨fun a h1 h2 => ?_, ?_⟩
          · rw [rr a (fun z => h1 (by rw [z]; simp))]; exact g1.1 a h1 h2
          · rw [r1 44 0 (by omega)]; exact g1.2
        have x46 : ∀ b, b < 13 → I3 46 b = nI (o2 S b) := by rw [rr 46 (by decide)]; exact g5
        obtain ⟨L, hLc⟩ : ∃ L, L = lcS S LF := ⟨_, rfl⟩
        by_cases q : L < 1000000
        · have q' : lcS S LF < 1000000 := by rw [← hLc]; exact q
          have hr := r3 q'
          rw [decide_eq_true q'] at r2
          rw [b_Planner_findLeast_201 hg]
          refine c_followFirst (S := S) (LF := LF) hg hB hP q' r2 hr.1 (by rw [r1 44 14 (by omega)]; exact g4) x46 (by intro f b q hf hb hq; rw [rr 45 (by decide)]; exact g6 f b q hf hb hq) hbase (fun b hb => by rw [rr _ (by omega)]; exact g8 b (by omega) hb) ?_
          intro I4 s1 s2
          refine ⟨rfl, ?_⟩
          have g1'' : OK I4 := by
            rw [hOK] at g1' ⊢
            refine ⟨fun a h1 h2 => ?_, ?_⟩
            · rw [s1 a (fun z => h1 (by rw [z]; simp))]; exact g1'.1 a h1 h2
            · rw [s1 44 (by decide)]; exact g1'.2
          refine fin I4 J2 g1'' g2 (by rw [s1 46 (by decide), x46 12 (by omega), o2_12]) ⟨?_, fun _ => ⟨?_, ?_, s2⟩⟩
          · rw [s1 44 (by decide), r2, decide_eq_true q']
          · rw [s1 44 (by decide)]; exact hr.1
          · rw [s1 44 (by decide)]; exact hr.2
        · have q' : ¬ lcS S LF < 1000000 := by rw [← hLc]; exact q
          have r2b : I3 44 8 = nI 0 := by rw [r2, decide_eq_false q']; rfl
          rw [b_Planner_findLeast_201 hg, e_Planner_followFirst, b_Planner_followFirst_0 hg]
          simp (disch := omega) only [b_Planner_followFirst_7, b_Planner_followFirst_13 hg, b_Planner_followFirst_99, ↓reduceIte, nadd, nmul, nsub, nlt, neq, ncl, nvi, ndiv, nrem, exI, exJ, exV, eq_self, true_and, and_true, true_or, or_true, if_true, if_false, not_true, not_false_eq_true, false_and, and_false, decide_true, decide_false, bi_T, bi_F, bi_0, bi_1, bi_z, bft, n10, n01, Nat.reduceEqDiff, Nat.reduceLT, Nat.reduceAdd, Nat.reduceMul, reduceCtorEq, r2b]
          refine fin I3 J2 g1' g2 (by rw [x46 12 (by omega), o2_12]) ⟨r2, fun z => absurd z q'⟩
    | succ k ih =>
      intro hk nw I2 J2 hw g1 g2 g3 g4 g5 g6 g7 g8
      have hk12 : k < 12 := by omega
      have e11 : 12 - (k + 1) = 11 - k := by omega
      rw [e11] at g7
      rw [b_Planner_findLeast_177, nsub (by omega), Nat.add_sub_cancel]
      simp (disch := omega) only [b_Planner_findLeast_181 hg, ↓reduceIte, nadd, nmul, nsub, nlt, neq, ncl, nvi, ndiv, nrem, exI, exJ, exV, eq_self, true_and, and_true, true_or, or_true, if_true, if_false, not_true, not_false_eq_true, false_and, and_false, decide_true, decide_false, bi_T, bi_F, bi_0, bi_1, bi_z, bft, n10, n01, Nat.reduceEqDiff, Nat.reduceLT, Nat.reduceAdd, Nat.reduceMul, reduceCtorEq, Nat.not_lt_zero]
      have hdb := dpS_b (S := S) (LF := LF) (11 - k) (by omega)
      have hiv := dp_inv hB (LF := LF) (show 11 - k ≤ 12 by omega)
      rw [show 12 - (11 - k) = k + 1 by omega] at hiv
      refine c_carryBack (S := S) (LF := LF) (M := dpS S LF (11 - k)) hg hB hP hw g3 g4 hk12 g5 g6 hdb (by omega) (show 54 * (11 - k) ≤ 9000 by omega) hiv hbase g7 ?_
      intro nw2 I3 J3 hw2 r1 r2 r3 r4
      refine ⟨rfl, ?_⟩
      have g1' : OK I3 := by
        rw [hOK] at g1 ⊢
        refine ⟨fun a h1 h2 => ?_, ?_⟩
        · rw [X13_r r1 (fun z => h1 (by rw [z]; simp))]; exact g1.1 a h1 h2
        · rw [r1 44 0 (by omega)]; exact g1.2
      have g2' : OJ J3 := by
        rw [hOJ] at g2 ⊢
        intro a h1 h2 h3
        rw [r3 a (by simp; omega)]
        exact g2 a h1 h2 h3
      rw [b_Planner_findLeast_186 hg]
      refine c_keepHoldings (S := S) (LF := LF) (M := bkS S LF k (dpS S LF (11 - k)) 6) hg (okS I3 g1') hP hw2 hk12 (okH I3 J3 g1' g2' k hk12) r2 (by rw [r1 44 14 (by omega)]; exact g4) (by rw [X13_r r1 (by decide)]; exact g5 k (by omega)) (show 54 * (11 - k) + 54 ≤ 10000 by omega) (bkS_b hdb (by omega) 6 (Nat.le_refl _)) r4 ?_
      intro I4 J4 s1 s2 s3 s4 s5 s6
      refine ⟨rfl, ?_⟩
      rw [← dp_k hk12] at s5 s6
      rw [b_Planner_findLeast_191, em]
      refine ih (by omega) (1 - nw2) I4 J4 (by omega) ?_ ?_ s3 ?_ ?_ ?_ ?_ ?_
      · rw [hOK] at g1' ⊢
        refine ⟨fun a h1 h2 => ?_, ?_⟩
        · rw [s1 a (by omega) (fun z => h1 (by rw [z]; simp)) (fun z => h1 (by rw [z]; simp))]
          exact g1'.1 a h1 h2
        · rw [s2 0 (by decide)]; exact g1'.2
      · rw [hOJ] at g2' ⊢
        intro a h1 h2 h3
        rw [s4 a (by omega)]
        exact g2' a h1 h2 h3
      · rw [s2 14 (by decide), r1 44 14 (by omega)]; exact g4
      · intro b hb
        rw [s1 46 (by omega) (by decide) (by decide), X13_r r1 (by decide)]
        exact g5 b hb
      · intro f b q hf hb hq
        rw [s1 45 (by omega) (by decide) (by decide), X13_r r1 (by decide)]
        exact g6 f b q hf hb hq
      · rw [show 54 * (12 - k) = 54 * (11 - k) + 54 by omega]
        exact s5
      · intro b hb1 hb2
        by_cases z : b = k
        · rw [z]; exact s6
        · rw [s1 (B + 1 + b) (by omega) (by omega) (by omega), X13_r r1 (by omega)]
          exact g8 b (by omega) hb2
  -- the costs
  have costs : ∀ I2, OK I2 → I2 44 14 = nI (bas (S 10 2) (S 10 4)) → (∀ b, b < 13 → I2 46 b = nI (o2 S b)) → ∀ v1, a_wp aTab aMX (d + 10) m_Planner_findLeast 153 [.ref 44, v1] [] (g, I2, J) Q := by
    intro I2 g1 g4 g5 v1
    rw [b_Planner_findLeast_153 hg]
    refine c_fillCosts (S := S) (LF := LF) hg (okS I2 g1) (okL I2 g1) g4 (fun b hb => by rw [g5 b (by omega), o2_ons hB hb]) ?_
    intro I3 J3 r1 r2 r3
    refine ⟨rfl, ?_⟩
    have a0 := PG_w hP (show 0 < 2 by decide)
    have k7 : gK g (gR g 44 7) = 18 := by rw [hP.2.2.1]; exact hP.2.2.2.2.2.2.1
    have n7 : gN g (gR g 44 7) = 2 := by rw [hP.2.2.1]; exact hP.2.2.2.2.2.2.2.1
    have g1' : OK I3 := by
      rw [hOK] at g1 ⊢
      refine ⟨fun a h1 h2 => ?_, ?_⟩
      · rw [r1 a (fun z => h1 (by simp at z ⊢; omega))]; exact g1.1 a h1 h2
      · rw [Fr_at r1 44 (by decide)]; exact g1.2
    rw [b_Planner_findLeast_157 hg, u2_s]
    simp (disch := omega) only [↓reduceIte, nadd, nmul, nsub, nlt, neq, ncl, nvi, ndiv, nrem, exI, exJ, exV, eq_self, true_and, and_true, true_or, or_true, if_true, if_false, not_true, not_false_eq_true, false_and, and_false, decide_true, decide_false, bi_T, bi_F, bi_0, bi_1, bi_z, bft, n10, n01, Nat.reduceEqDiff, Nat.reduceLT, Nat.reduceAdd, Nat.reduceMul, reduceCtorEq, k7, n7, a0.1, a0.2.1, a0.2.2]
    have := beats 12 (Nat.le_refl _) 0 (u2 I3 44 13 (nI 0)) (u2 J3 (B + 14 + 0) 0 (lN 1)) (by decide) (ok_u I3 44 13 _ g1' (by omega)) ?_ u2_s (by rw [u2_k (by decide), Fr_at r1 44 (by decide)]; exact g4) (fun b hb => by rw [u2_a (by decide), Fr_at r1 46 (by decide)]; exact g5 b hb) (by intro f b q hf hb hq; rw [u2_a (by decide)]; exact r3 f b q hf hb hq) ?_ (fun b h1 h2 => by omega)
    · rw [nsub (by decide)] at this
      exact this
    · rw [hOJ]
      intro a h1 h2 h3
      rw [u2_r (by omega), r2 a (by simp; omega)]
    · intro c hc hv
      have hz : ∀ j, sOn2 S j 12 = false := fun j => by unfold sOn2; rw [decide_eq_false (by omega), Bool.false_and]
      have hv2 := (vd_iff _ c).1 hv
      have ec : c = 0 := dg_ext hc (by decide) (fun j hj => by
        have := hv2 j hj
        rw [hz j] at this
        have := of_decide_eq_true this
        rw [this]
        unfold dg
        rw [Nat.zero_div])
      have ei : ixm (S 10 2) (S 10 4) (fun j => sOn2 S j 12) 6 c = 0 := by
        have : ∀ m x, ixm (S 10 2) (S 10 4) (fun j => sOn2 S j 12) m x = 0 := by
          intro m
          induction m with
          | zero => intro x; rfl
          | succ m ihm =>
            intro x
            rw [ixm_s]
            show (if sOn2 S m 12 then _ else _) = 0
            rw [hz m, if_neg (by decide)]
            exact ihm _
        exact this 6 c
      rw [ei, u2_s]
      rw [show dpS S LF (12 - 12) c = (0, 1) from rfl]
      exact Or.inl ⟨Nat.zero_lt_succ _, by simp only [Nat.zero_mul, Nat.zero_add]⟩
  -- who is on
  have onL : ∀ k, k ≤ 12 → ∀ I2, OK I2 → I2 44 14 = nI (bas (S 10 2) (S 10 4)) → (∀ b, b < k → I2 46 b = nI (o2 S b)) → I2 46 12 = nI 0 → a_wp aTab aMX (d + 10) m_Planner_findLeast 127 [.ref 44, .int (nI k)] [] (g, I2, J) Q := by
    refine dn ?_ ?_
    · intro I2 g1 g4 g5 g6
      simp (disch := omega) only [b_Planner_findLeast_127, ↓reduceIte, nadd, nmul, nsub, nlt, neq, ncl, nvi, ndiv, nrem, exI, exJ, exV, eq_self, true_and, and_true, true_or, or_true, if_true, if_false, not_true, not_false_eq_true, false_and, and_false, decide_true, decide_false, bi_T, bi_F, bi_0, bi_1, bi_z, bft, n10, n01, Nat.reduceEqDiff, Nat.reduceLT, Nat.reduceAdd, Nat.reduceMul, reduceCtorEq, Nat.lt_irrefl]
      refine costs I2 g1 g4 ?_ _
      intro b hb
      by_cases z : b = 12
      · rw [z, g6, o2_12]
      · exact g5 b (by omega)
    · intro k hk ih I2 g1 g4 g5 g6
      rw [b_Planner_findLeast_127]
      simp (disch := omega) only [b_Planner_findLeast_133 hg, b_Planner_findLeast_146 hg, ↓reduceIte, nadd, nmul, nsub, nlt, neq, ncl, nvi, ndiv, nrem, exI, exJ, exV, eq_self, true_and, and_true, true_or, or_true, if_true, if_false, not_true, not_false_eq_true, false_and, and_false, decide_true, decide_false, bi_T, bi_F, bi_0, bi_1, bi_z, bft, n10, n01, Nat.reduceEqDiff, Nat.reduceLT, Nat.reduceAdd, Nat.reduceMul, reduceCtorEq, hk, c_onBits hg (okS I2 g1)]
      refine ih _ (ok_u I2 46 k _ g1 (by omega)) ?_ ?_ ?_
      · rw [u2_a (by decide)]; exact g4
      · intro b hb
        by_cases z : b = k
        · rw [z, u2_s, o2_ons hB hk]
        · rw [u2_k z]; exact g5 b (by omega)
      · rw [u2_k (by omega)]; exact g6
  rw [b_Planner_findLeast_94 hg]
  have eb : bas (S 10 2) (S 10 4) = S 10 2 + if 0 < S 10 4 then 1 else 0 := rfl
  by_cases q : 0 < S 10 4
  · rw [if_pos q] at eb
    simp (disch := omega) only [b_Planner_findLeast_116, b_Planner_findLeast_121 hg, ↓reduceIte, nadd, nmul, nsub, nlt, neq, ncl, nvi, ndiv, nrem, exI, exJ, exV, eq_self, true_and, and_true, true_or, or_true, if_true, if_false, not_true, not_false_eq_true, false_and, and_false, decide_true, decide_false, bi_T, bi_F, bi_0, bi_1, bi_z, bft, n10, n01, Nat.reduceEqDiff, Nat.reduceLT, Nat.reduceAdd, Nat.reduceMul, reduceCtorEq, cs7 hS, cs8 hS, cs9 hS, cs10 hS, cs11 hS, cs12 hS, cs13 hS, q, ← eb]
    refine onL 0 (by omega) _ (ok_u I 44 14 _ ok1 (by omega)) u2_s (fun b hb => absurd hb (by omega)) ?_
    rw [u2_a (by decide)]; exact h12
  · rw [if_neg q] at eb
    simp (disch := omega) only [b_Planner_findLeast_120, b_Planner_findLeast_121 hg, ↓reduceIte, nadd, nmul, nsub, nlt, neq, ncl, nvi, ndiv, nrem, exI, exJ, exV, eq_self, true_and, and_true, true_or, or_true, if_true, if_false, not_true, not_false_eq_true, false_and, and_false, decide_true, decide_false, bi_T, bi_F, bi_0, bi_1, bi_z, bft, n10, n01, Nat.reduceEqDiff, Nat.reduceLT, Nat.reduceAdd, Nat.reduceMul, reduceCtorEq, cs7 hS, cs8 hS, cs9 hS, cs10 hS, cs11 hS, cs12 hS, cs13 hS, q, ← eb]
    refine onL 0 (by omega) _ (ok_u I 44 14 _ ok1 (by omega)) u2_s (fun b hb => absurd hb (by omega)) ?_
    rw [u2_a (by decide)]; exact h12
theorem c_findLeast {W : Nat → Int32} (hg : Geo g) (hx : 123 ≤ gx g) (hS : CS S I) (hL : LJ LF I W) (hC : HC S LF I J) (h12 : I 46 12 = nI 0) (hca : I 44 0 = nI 0 ∨ (I 44 0 = nI 1 ∧ PR S LF I)) (hP : gR g 44 6 = 0 ∨ ∃ B, PG g B ∧ B + 16 ≤ gx g)
    (hQ : ∀ g' I' J', Gx g g' → (g' = g ∨ (gR g 44 6 = 0 ∧ gx g' = gx g + 16 ∧ gs g' = gs g + 57358)) → (gR g' 44 6 = 0 ∨ ∃ B, PG g' B ∧ B + 16 ≤ gx g') → (∀ a, a < gx g → a ∉ [34, 36, 38, 39, 40, 44, 45, 46, 47, 48] → (∀ B, PG g' B → ¬ (B ≤ a ∧ a < B + 16)) → I' a = I a) → (∀ a, a < gx g → a ∉ [35, 37] → (∀ B, PG g' B → ¬ (B ≤ a ∧ a < B + 16)) → J' a = J a) → HC S LF I' J' → I' 46 12 = nI 0 → I' 44 0 = nI 1 → PR S LF I' → Q (some (.int (bi (decide (lcS S LF < 1000000))))) (g', I', J')) : a_call aTab aMX (d + 11) m_Planner_findLeast [.ref 44] (g, I, J) Q := by
  have hB := hS.2
  have ht := sb10 hB
  have hGr : Gx g g := ⟨Nat.le_refl _, fun a _ => ⟨rfl, rfl, fun _ _ => rfl⟩⟩
  rw [e_Planner_findLeast, b_Planner_findLeast_0 hg]
  rcases hca with h0 | ⟨h1, h2⟩
  rotate_left
  · rw [h1]
    simp (disch := omega) only [b_Planner_findLeast_7 hg, ↓reduceIte, nadd, nmul, nsub, nlt, neq, ncl, nvi, ndiv, nrem, exI, exJ, exV, eq_self, true_and, and_true, true_or, or_true, if_true, if_false, not_true, not_false_eq_true, false_and, and_false, decide_true, decide_false, bi_T, bi_F, bi_0, bi_1, bi_z, bft, n10, n01, Nat.reduceEqDiff, Nat.reduceLT, Nat.reduceAdd, Nat.reduceMul, reduceCtorEq, h2.1, Nat.one_ne_zero]
    exact hQ g I J hGr (Or.inl rfl) hP (fun _ _ _ _ => rfl) (fun _ _ _ _ => rfl) hC h12 h1 h2
  rw [h0]
  simp (disch := omega) only [b_Planner_findLeast_12 hg, ↓reduceIte, nadd, nmul, nsub, nlt, neq, ncl, nvi, ndiv, nrem, exI, exJ, exV, eq_self, true_and, and_true, true_or, or_true, if_true, if_false, not_true, not_false_eq_true, false_and, and_false, decide_true, decide_false, bi_T, bi_F, bi_0, bi_1, bi_z, bft, n10, n01, Nat.reduceEqDiff, Nat.reduceLT, Nat.reduceAdd, Nat.reduceMul, reduceCtorEq]
  have f1 : Fr [44] I (u2 I 44 0 (nI 1)) := Fr_u (by decide) Fr_rf
  have e10 : u2 I 44 0 (nI 1) 10 2 = nI (S 10 2) := by rw [u2_a (by decide)]; exact cs10 hS 2
  rw [e10]
  refine c_firstBarred (d := d + 4) hg (CS_Fr (by decide) f1 hS) (LJ_Fr (by decide) f1 hL) (HC_c (u2_r (by decide)) (u2_r (by decide)) rfl hC) ht.2.2.2.1 ?_
  intro I2 J2 r1 r2 r3 r4
  refine ⟨_, rfl, ?_⟩
  have fr2 : ∀ a, a ∉ [34, 36, 38, 39, 40, 44, 45, 46, 47, 48] → I2 a = I a := fun a ha => by
    rw [r1 a (fun z => ha (by simp at z ⊢; omega)), u2_r (fun z => ha (by rw [z]; simp))]
  have frJ : ∀ a, a ∉ [35, 37] → J2 a = J a := fun a ha => r2 a ha
  have e440 : I2 44 0 = nI 1 := by rw [Fr_at r1 44 (by decide), u2_s]
  have e46 : I2 46 12 = nI 0 := by rw [Fr_at r1 46 (by decide), u2_a (by decide)]; exact h12
  have hfl := fbr_le (S := S) (LF := LF) (hp := S 10 2)
  obtain ⟨fb, hfb⟩ : ∃ fb, fb = fbr S LF (S 10 2) := ⟨_, rfl⟩
  rw [← hfb] at r4 hfl ⊢
  by_cases q : fb < 12
  · -- a beat is barred
    have hbar := bar_far hB (LF := LF) (by rw [← hfb]; exact q)
    have nf : ¬ lcS S LF < 1000000 := by rw [hbar.1]; exact Nat.lt_irrefl _
    have hne : ¬ nI fb = (-1 : Int32) := by
      intro z
      have := congrArg Int32.toInt z
      rw [nI_toInt (by omega)] at this
      have e : ((-1 : Int32)).toInt = -1 := by decide
      omega
    rw [if_pos q]
    simp (disch := omega) only [b_Planner_findLeast_34, b_Planner_findLeast_42, b_Planner_findLeast_43 hg, b_Planner_findLeast_53, ↓reduceIte, nadd, nmul, nsub, nlt, neq, ncl, nvi, ndiv, nrem, exI, exJ, exV, eq_self, true_and, and_true, true_or, or_true, if_true, if_false, not_true, not_false_eq_true, false_and, and_false, decide_true, decide_false, bi_T, bi_F, bi_0, bi_1, bi_z, bft, n10, n01, Nat.reduceEqDiff, Nat.reduceLT, Nat.reduceAdd, Nat.reduceMul, reduceCtorEq, hne, u2_s]
    have := hQ g (u2 I2 44 8 (nI 0)) J2 hGr (Or.inl rfl) hP (fun a _ ha _ => by rw [u2_r (fun z => ha (by rw [z]; simp))]; exact fr2 a ha) (fun a _ ha _ => frJ a ha) (HC_c (u2_r (by decide)) (u2_r (by decide)) rfl r3) (by rw [u2_a (by decide)]; exact e46) (by rw [u2_k (by decide)]; exact e440) ⟨by rw [u2_s, decide_eq_false nf]; rfl, fun z => absurd z nf⟩
    rw [decide_eq_false nf] at this
    exact this
  · have hfb12 : fbr S LF (S 10 2) = 12 := by rw [← hfb]; omega
    rw [if_neg q]
    simp (disch := omega) only [b_Planner_findLeast_34, b_Planner_findLeast_38, b_Planner_findLeast_43 hg, ↓reduceIte, nadd, nmul, nsub, nlt, neq, ncl, nvi, ndiv, nrem, exI, exJ, exV, eq_self, true_and, and_true, true_or, or_true, if_true, if_false, not_true, not_false_eq_true, false_and, and_false, decide_true, decide_false, bi_T, bi_F, bi_0, bi_1, bi_z, bft, n10, n01, Nat.reduceEqDiff, Nat.reduceLT, Nat.reduceAdd, Nat.reduceMul, reduceCtorEq, u2_s, Nat.one_ne_zero]
    have hH : ∀ b, b < 12 → HB S LF (u2 I2 44 8 (nI 1)) J2 b := fun b hb => HB_c (u2_r (by decide)) rfl (HC_1 r3 hb (r4 b hb (by omega)))
    have f3 : Fr [34, 36, 38, 39, 40, 44] I (u2 I2 44 8 (nI 1)) := Fr_u (by decide) (Fr_tr (Fr_w (by decide) f1) (Fr_w (by decide) r1))
    have hS3 := CS_Fr (by decide) f3 hS
    have hL3 := LJ_Fr (by decide) f3 hL
    have x46 : u2 I2 44 8 (nI 1) 46 12 = nI 0 := by rw [u2_a (by decide)]; exact e46
    rw [b_Planner_findLeast_55 hg]
    rcases hP with hn | ⟨B, hPB, hBx⟩
    · -- new rows
      rw [if_pos hn, b_Planner_findLeast_69]
      simp (disch := omega) only [ncl, nlt, Nat.not_lt_zero, not_false_eq_true, true_and, and_true, Nat.reduceLeDiff]
      obtain ⟨p1, p2, p3, p4⟩ := gPl_ok hx
      have eg : gput (gmul (gput (gmul g 17 12 12 4096) 44 6 (gx g)) 18 13 2 4096) 44 7 (gx (gput (gmul g 17 12 12 4096) 44 6 (gx g))) = gPl g := rfl
      have ex : gx (gput (gmul g 17 12 12 4096) 44 6 (gx g)) = gx g + 13 := rfl
      have k1 : gK (gmul g 17 12 12 4096) 44 = 4 := by
        show (if 44 = gx g then 17 else if gx g < 44 ∧ 44 ≤ gx g + 12 then 12 else gK g 44) = 4
        rw [if_neg (by omega), if_neg (by omega)]; exact k_44 hg
      have k2 : gK (gmul (gput (gmul g 17 12 12 4096) 44 6 (gx g)) 18 13 2 4096) 44 = 4 := by
        show (if 44 = gx g + 13 then 18 else if gx g + 13 < 44 ∧ 44 ≤ gx g + 13 + 2 then 13 else (if 44 = gx g then 17 else if gx g < 44 ∧ 44 ≤ gx g + 12 then 12 else gK g 44)) = 4
        rw [if_neg (by omega), if_neg (by omega), if_neg (by omega), if_neg (by omega)]; exact k_44 hg
      rw [k1, k2, eg, ex]
      simp only [eq_self, true_and]
      have zmr : ∀ (α : Type) (f : Nat → Nat → α) (x n : Nat) (v : α) (a : Nat), ¬ (x ≤ a ∧ a ≤ x + n) → zm f x n v a = f a := by
        intro α f x n v a ha
        funext j
        exact if_neg ha
      have zI : ∀ a, a < gx g → zm (zm (u2 I2 44 8 (nI 1)) (gx g) 12 0) (gx g + 13) 2 0 a = u2 I2 44 8 (nI 1) a := fun a ha => by rw [zmr _ _ _ _ _ _ (by omega), zmr _ _ _ _ _ _ (by omega)]
      have zJ : ∀ a, a < gx g → zm (zm J2 (gx g) 12 0) (gx g + 13) 2 0 a = J2 a := fun a ha => by rw [zmr _ _ _ _ _ _ (by omega), zmr _ _ _ _ _ _ (by omega)]
      generalize zm (zm (u2 I2 44 8 (nI 1)) (gx g) 12 0) (gx g + 13) 2 0 = I4 at *
      generalize zm (zm J2 (gx g) 12 0) (gx g + 13) 2 0 = J4 at *
      refine l94 (S := S) (LF := LF) (W := W) (Gx_geo hx p2 hg) p1 ⟨fun a k h1 h2 => by rw [zI a (by omega)]; exact hS3.1 a k h1 h2, hB⟩ (LJ_cong (fun a h1 h2 => zI a (by omega)) (fun _ _ => rfl) hL3) (fun b hb => HB_c (zI 38 (by omega)) (zJ 37 (by omega)) (hH b hb)) hfb12 (by rw [zI 46 (by omega)]; exact x46) ?_
      intro I5 J5 s1 s2 s3 s4 s5
      refine hQ (gPl g) I5 J5 p2 (Or.inr ⟨hn, p3, p4⟩) (Or.inr ⟨gx g, p1, by omega⟩) ?_ ?_ ?_ s4 ?_ s5
      · intro a ha1 ha2 ha3
        rw [s1 a (fun z => ha2 (by simp at z ⊢; omega)) (by omega), zI a ha1, u2_r (fun z => ha2 (by rw [z]; simp))]
        exact fr2 a ha2
      · intro a ha1 ha2 ha3
        rw [s2 a (fun z => ha2 (by rw [z]; simp)) (by omega) (by omega), zJ a ha1]
        exact frJ a ha2
      · refine HC_c (I := I2) (J := J2) ?_ ?_ ?_ r3
        · rw [s1 38 (by decide) (by omega), zI 38 (by omega), u2_r (by decide)]
        · rw [s1 39 (by decide) (by omega), zI 39 (by omega), u2_r (by decide)]
        · rw [s2 37 (by decide) (by omega) (by omega), zJ 37 (by omega)]
      · rw [s3, zI 44 (by omega), u2_k (by decide)]; exact e440
    · have hB1 := hPB.1
      have n6 : ¬ gR g 44 6 = 0 := by rw [hPB.2.1]; omega
      have n7 : ¬ gR g 44 7 = 0 := by rw [hPB.2.2.1]; omega
      rw [if_neg n6, b_Planner_findLeast_62 hg, if_neg n7]
      refine l94 (S := S) (LF := LF) (W := W) hg hPB hS3 hL3 hH hfb12 x46 ?_
      intro I5 J5 s1 s2 s3 s4 s5
      refine hQ g I5 J5 hGr (Or.inl rfl) (Or.inr ⟨B, hPB, hBx⟩) ?_ ?_ ?_ s4 ?_ s5
      · intro a ha1 ha2 ha3
        have := ha3 B hPB
        rw [s1 a (fun z => ha2 (by simp at z ⊢; omega)) (by omega), u2_r (fun z => ha2 (by rw [z]; simp))]
        exact fr2 a ha2
      · intro a ha1 ha2 ha3
        have := ha3 B hPB
        rw [s2 a (fun z => ha2 (by rw [z]; simp)) (by omega) (by omega)]
        exact frJ a ha2
      · refine HC_c (I := I2) (J := J2) ?_ ?_ ?_ r3
        · rw [s1 38 (by decide) (by omega), u2_r (by decide)]
        · rw [s1 39 (by decide) (by omega), u2_r (by decide)]
        · rw [s2 37 (by decide) (by omega) (by omega)]
      · rw [s3, u2_k (by decide)]; exact e440
end FL
