/-! ===== the Planner: findLeast ===== -/
def PR (S : Nat → Nat → Nat) (LF : aLF) (I : Nat → Nat → Int32) : Prop := I 44 8 = bi (decide (lcS S LF < 1000000)) ∧ (lcS S LF < 1000000 → I 44 1 = nI (lcS S LF) ∧ I 44 2 = nI (lwS S LF) ∧ ∀ b, b < 12 → ∀ f, f < 6 → sOn2 S f b = true → I 47 (f * 12 + b) = nI (dO (S 10 2) (dg 6 (fcS S LF (b + 1)).1 f)))
theorem far_all {S : Nat → Nat → Nat} {LF : aLF} {b : Nat} {M : aM} (hM : ∀ c, c < 4096 → (M c).1 = 1000000) : ∀ f, f ≤ 6 → ∀ c, c < 4096 → (bkS S LF b M f c).1 = 1000000
  | 0, _, c, hc => hM c hc
  | f + 1, hf, c, hc => by
    show (if sOn2 S f b = true ∨ dg 6 c f = 0 then (mt (bkS S LF b M f) (psv S LF f b (dg 6 c f)) c f (if sOn2 S f (b + 1) then 4 else 1)).1 else 1000000) = 1000000
    rw [mt_far]
    · split <;> rfl
    · intro t ht
      have ht4 : t < 4 := Nat.lt_of_lt_of_le ht (by split <;> omega)
      exact far_all hM f (by omega) (sd c f t) (sd_lt hc (by omega) ht4)
theorem lsF_far {D : aM} (h : ∀ c, c < 4096 → (D c).1 = 1000000) : ∀ k, k ≤ 4096 → lsF D k = (1000000, 0)
  | 0, _ => rfl
  | k + 1, hk => by
    have ih := lsF_far h k (by omega)
    rw [lsF_s (by rw [ih]; exact Nat.le_refl _) (by rw [h k (by omega)]; exact Nat.le_refl _), ih, h k (by omega), stp_far]
theorem hN_isB {S : Nat → Nat → Nat} (hB : SB S) {LF : aLF} {b : Nat} : hN S LF (S 10 2) b (sOns S b) = fb_ct (isB S LF b) 4096 := by
  have ht := sb10 hB
  unfold hN
  rw [← hn_codes ht.2.2.2.1 (ons_lt hB b) (fun h _ => canS_0)]
  rfl
theorem bar_far {S : Nat → Nat → Nat} (hB : SB S) {LF : aLF} (h : fbr S LF (S 10 2) < 12) : lcS S LF = 1000000 ∧ lwS S LF = 0 := by
  have hz := fbr_yes h
  generalize fbr S LF (S 10 2) = b at *
  rw [hN_isB hB, fb_ct_zero] at hz
  have key : ∀ j, j ≤ b → ∀ c, c < 4096 → (dpS S LF (12 - b + j) c).1 = 1000000 := by
    intro j
    induction j with
    | zero =>
      intro _ c hc
      rw [Nat.add_zero, show 12 - b = (11 - b) + 1 by omega]
      show (if isB S LF (11 - (11 - b)) c then _ else (1000000, 0)).1 = _
      rw [show 11 - (11 - b) = b by omega, hz c hc]
      rfl
    | succ j ih =>
      intro hj c hc
      show (if isB S LF (11 - (12 - b + j)) c then bkS S LF (11 - (12 - b + j)) (dpS S LF (12 - b + j)) 6 c else (1000000, 0)).1 = _
      split
      · exact far_all (ih (by omega)) 6 (Nat.le_refl _) c hc
      · rfl
  have h12 := key b (Nat.le_refl _)
  rw [show 12 - b + b = 12 by omega] at h12
  have := lsF_far h12 4096 (Nat.le_refl _)
  unfold lcS lwS
  rw [this]
  exact ⟨rfl, rfl⟩
theorem base_ok {S : Nat → Nat → Nat} (hB : SB S) {LF : aLF} (h : fbr S LF (S 10 2) = 12) : 0 < bas (S 10 2) (S 10 4) ∨ ∀ b2 j, sOn2 S j b2 = false := by
  by_cases q : 0 < bas (S 10 2) (S 10 4)
  · exact Or.inl q
  right
  intro b j
  apply Bool.eq_false_iff.2
  intro z
  unfold sOn2 at z
  rw [Bool.and_eq_true, decide_eq_true_iff] at z
  have hne := fbr_no (S := S) (LF := LF) (hp := S 10 2) (i := b) (by omega)
  rw [hN_isB hB] at hne
  have hp : 0 < fb_ct (isB S LF b) 4096 := by omega
  rw [fb_ct_pos] at hp
  obtain ⟨c, hc, hi⟩ := hp
  have hj : j < 6 := by
    have := (sOn_lt z.2).1
    have := sb7 hB 0
    omega
  have hv := isB_vh hB hi hj z.2
  have := dO_lt hv
  omega
section FL
variable {d : Nat} {g : aG} {I : Nat → Nat → Int32} {J : Nat → Nat → Int64} {Q : aQ} {S : Nat → Nat → Nat} {LF : aLF}
theorem c_followFirst {B : Nat} (hg : Geo g) (hB : SB S) (hP : PG g B) (hl : lcS S LF < 1000000) (h8 : I 44 8 = nI 1) (h1 : I 44 1 = nI (lcS S LF)) (h14 : I 44 14 = nI (bas (S 10 2) (S 10 4))) (h46 : ∀ b, b < 13 → I 46 b = nI (o2 S b)) (hC : CD S LF 12 0 0 I) (hbase : 0 < bas (S 10 2) (S 10 4) ∨ ∀ b2 j, sOn2 S j b2 = false) (hR : ∀ b, b < 12 → BR S b (I (B + 1 + b)) (dpS S LF (12 - b)))
    (hQ : ∀ I', (∀ a, a ≠ 47 → I' a = I a) → (∀ b, b < 12 → ∀ f, f < 6 → sOn2 S f b = true → I' 47 (f * 12 + b) = nI (dO (S 10 2) (dg 6 (fcS S LF (b + 1)).1 f))) → Q none (g, I', J)) : a_call aTab aMX (d + 3) m_Planner_followFirst [.ref 44] (g, I, J) Q := by
  have ht := sb10 hB
  have hh : S 10 2 ≤ 3 := ht.2.2.2.1
  have hbs : bas (S 10 2) (S 10 4) ≤ 4 := by unfold bas; split <;> omega
  have k6 : gK g (gR g 44 6) = 17 := by rw [hP.2.1]; exact hP.2.2.2.1
  have n6 : gN g (gR g 44 6) = 12 := by rw [hP.2.1]; exact hP.2.2.2.2.1
  have hB1 := hP.1
  have l0 := lcS_b (S := S) (LF := LF)
  rw [e_Planner_followFirst, b_Planner_followFirst_0 hg, h1]
  have key : ∀ b, b ≤ 12 → ∀ I2, (∀ a, a ≠ 47 → I2 a = I a) → (∀ b2, b2 < b → ∀ f, f < 6 → sOn2 S f b2 = true → I2 47 (f * 12 + b2) = nI (dO (S 10 2) (dg 6 (fcS S LF (b2 + 1)).1 f))) → ∀ v3 v4, a_wp aTab aMX (d + 2) m_Planner_followFirst 7 [.ref 44, .int (nI (fcS S LF b).2), .int (nI b), v3, v4] [] (g, I2, J) Q := by
    refine dn ?_ ?_
    · intro I2 g1 g2 v3 v4
      simp (disch := omega) only [b_Planner_followFirst_7, b_Planner_followFirst_99, ↓reduceIte, nadd, nmul, nsub, nlt, neq, ncl, nvi, ndiv, nrem, exI, exJ, exV, eq_self, true_and, and_true, true_or, or_true, if_true, if_false, not_true, not_false_eq_true, false_and, and_false, decide_true, decide_false, bi_T, bi_F, bi_0, bi_1, bi_z, bft, n10, n01, Nat.reduceEqDiff, Nat.reduceLT, Nat.reduceAdd, Nat.reduceMul, reduceCtorEq, Nat.lt_irrefl]
      exact hQ I2 g1 g2
    · intro b hb ih I2 g1 g2 v3 v4
      obtain ⟨o1, o2', o3⟩ := fc_ok hl b (by omega)
      obtain ⟨c0, hc0, hfit⟩ := o3 hb
      have hlt : (fcS S LF (b + 1)).1 < 4096 := by rw [fcS_s1]; exact first_lt hc0 hfit
      have hyes : fit S LF b (fcS S LF b).1 (fcS S LF b).2 (fcS S LF (b + 1)).1 = true := fst_yes (fcS_s1 b) hlt
      have hno : ∀ i, i < (fcS S LF (b + 1)).1 → fit S LF b (fcS S LF b).1 (fcS S LF b).2 i = false := fun i hi => fst_no (fcS_s1 b) hi
      have e2 := fcS_s2 (S := S) (LF := LF) b
      have hleft : (fcS S LF b).2 < 1000000 := by
        by_cases q : b = 0
        · rw [q, fcS_02]; exact hl
        · exact (o2' (by omega)).1
      have hvhad : 0 < b → vdm (S 10 2) (S 10 4) (fun j => sOn2 S j (b - 1)) 6 (fcS S LF b).1 = true := by
        intro hb0
        have h3 := o2' hb0
        have h4 : cst S LF (b - 1) (fcS S LF b).1 ≠ 1000000 := by rw [← h3.2]; exact Nat.ne_of_lt h3.1
        exact cst_vd hB (by omega) h4
      have h47 : 0 < b → ∀ f, f < 6 → sOn2 S f (b - 1) = true → I2 47 (f * 12 + (b - 1)) = nI (dO (S 10 2) (dg 6 (fcS S LF b).1 f)) := by
        intro hb0 f hf ho
        have := g2 (b - 1) (by omega) f hf ho
        rw [show b - 1 + 1 = b by omega] at this
        exact this
      rw [e2] at ih
      have hcs : cst S LF b (fcS S LF (b + 1)).1 ≠ 1000000 := ((fit_iff).1 hyes).1
      have hvc := cst_vd hB hb hcs
      have hsz := ixm_lt _ 6 _ hvc
      have hsz2 : pwm (S 10 2) (S 10 4) (fun j => sOn2 S j b) 6 ≤ 4096 := pwm_le hh _ 6
      obtain ⟨pws, pcl⟩ := o2_pw (S := S) (hp := S 10 2) (hk := S 10 4) (b := b)
      generalize hc1 : (fcS S LF (b + 1)).1 = c1 at *
      generalize (fcS S LF b).1 = had at *
      generalize (fcS S LF b).2 = left at *
      have x8 : I2 44 8 = nI 1 := by rw [g1 44 (by decide)]; exact h8
      have x14 : I2 44 14 = nI (bas (S 10 2) (S 10 4)) := by rw [g1 44 (by decide)]; exact h14
      have x46 : I2 46 b = nI (o2 S b) := by rw [g1 46 (by decide)]; exact h46 b (by omega)
      have ab := PG_b hP hb
      rw [b_Planner_followFirst_7]
      simp (disch := first | omega | exact pcl) only [b_Planner_followFirst_13 hg, b_Planner_followFirst_20 hg, b_Planner_followFirst_30, ↓reduceIte, nadd, nmul, nsub, nlt, neq, ncl, nvi, ndiv, nrem, exI, exJ, exV, eq_self, true_and, and_true, true_or, or_true, if_true, if_false, not_true, not_false_eq_true, false_and, and_false, decide_true, decide_false, bi_T, bi_F, bi_0, bi_1, bi_z, bft, n10, n01, Nat.reduceEqDiff, Nat.reduceLT, Nat.reduceAdd, Nat.reduceMul, reduceCtorEq, hb, x8, x46, c_sizeOf hg x14 hbs, pws, Nat.one_ne_zero]
      have look : ∀ n, n ≤ ixm (S 10 2) (S 10 4) (fun j => sOn2 S j b) 6 c1 → ∀ I2, (∀ a, a ≠ 47 → I2 a = I a) → (∀ b2, b2 < b → ∀ f, f < 6 → sOn2 S f b2 = true → I2 47 (f * 12 + b2) = nI (dO (S 10 2) (dg 6 (fcS S LF (b2 + 1)).1 f))) → (0 < b → ∀ f, f < 6 → sOn2 S f (b - 1) = true → I2 47 (f * 12 + (b - 1)) = nI (dO (S 10 2) (dg 6 had f))) → a_wp aTab aMX (d + 2) m_Planner_followFirst 34 [.ref 44, .int (nI left), .int (nI b), .int (nI (pwm (S 10 2) (S 10 4) (fun j => sOn2 S j b) 6)), .int (nI n)] [] (g, I2, J) Q := by
        have test : ∀ n c, c < 4096 → vdm (S 10 2) (S 10 4) (fun j => sOn2 S j b) 6 c = true → ixm (S 10 2) (S 10 4) (fun j => sOn2 S j b) 6 c = n → ∀ I2, (∀ a, a ≠ 47 → I2 a = I a) → (∀ b2, b2 < b → ∀ f, f < 6 → sOn2 S f b2 = true → I2 47 (f * 12 + b2) = nI (dO (S 10 2) (dg 6 (fcS S LF (b2 + 1)).1 f))) → (0 < b → ∀ f, f < 6 → sOn2 S f (b - 1) = true → I2 47 (f * 12 + (b - 1)) = nI (dO (S 10 2) (dg 6 had f))) → (fit S LF b had left c = true → ∀ I3, (∀ a, a ≠ 47 → I3 a = I a) → (∀ f, f < 6 → sOn2 S f b = true → I3 47 (f * 12 + b) = nI (dO (S 10 2) (dg 6 c f))) → (∀ i, (∀ f, f < 6 → i ≠ f * 12 + b) → I3 47 i = I2 47 i) → ∀ v1 v3, a_wp aTab aMX (d + 2) m_Planner_followFirst 74 [.ref 44, v1, .int (nI b), v3, .int (nI n)] [] (g, I3, J) Q) → (fit S LF b had left c = false → ∀ I3, (∀ a, a ≠ 47 → I3 a = I a) → (∀ i, (∀ f, f < 6 → i ≠ f * 12 + b) → I3 47 i = I2 47 i) → a_wp aTab aMX (d + 2) m_Planner_followFirst 87 [.ref 44, .int (nI left), .int (nI b), .int (nI (pwm (S 10 2) (S 10 4) (fun j => sOn2 S j b) 6)), .int (nI n)] [] (g, I3, J) Q) → a_wp aTab aMX (d + 2) m_Planner_followFirst 34 [.ref 44, .int (nI left), .int (nI b), .int (nI (pwm (S 10 2) (S 10 4) (fun j => sOn2 S j b) 6)), .int (nI n)] [] (g, I2, J) Q := by
          intro n c hc hv hn I2 g1 g2 g47 hy hnn
          have hnl : n < pwm (S 10 2) (S 10 4) (fun j => sOn2 S j b) 6 := by rw [← hn]; exact ixm_lt _ 6 c hv
          have rr := hR b hb c hc hv
          rw [hn] at rr
          have eR : I2 (B + 1 + b) = I (B + 1 + b) := g1 _ (by omega)
          have cb := cst_b (S := S) (LF := LF) (b := b) hc
          have ecs : cst S LF b c = (dpS S LF (12 - b) c).1 := by unfold cst; rfl
          rw [← ecs] at rr
          have fi := fit_iff (S := S) (LF := LF) (b := b) (had := had) (left := left) (c := c)
          rw [b_Planner_followFirst_34]
          by_cases q1 : cst S LF b c = 1000000
          · obtain ⟨x, xl1, xl2, ex⟩ := rr.2 q1
            have q3 : left < x := by omega
            simp (disch := omega) only [b_Planner_followFirst_40 hg, ↓reduceIte, nadd, nmul, nsub, nlt, neq, ncl, nvi, ndiv, nrem, exI, exJ, exV, eq_self, true_and, and_true, true_or, or_true, if_true, if_false, not_true, not_false_eq_true, false_and, and_false, decide_true, decide_false, bi_T, bi_F, bi_0, bi_1, bi_z, bft, n10, n01, Nat.reduceEqDiff, Nat.reduceLT, Nat.reduceAdd, Nat.reduceMul, reduceCtorEq, hnl, k6, n6, ab.1, ab.2.1, ab.2.2, eR, ex, q3]
            exact hnn (Bool.eq_false_iff.2 (fun z => (fi.1 z).1 q1)) I2 g1 (fun _ _ => rfl)
          · have ex := rr.1 (by omega)
            by_cases q3 : left < cst S LF b c
            · simp (disch := omega) only [b_Planner_followFirst_40 hg, ↓reduceIte, nadd, nmul, nsub, nlt, neq, ncl, nvi, ndiv, nrem, exI, exJ, exV, eq_self, true_and, and_true, true_or, or_true, if_true, if_false, not_true, not_false_eq_true, false_and, and_false, decide_true, decide_false, bi_T, bi_F, bi_0, bi_1, bi_z, bft, n10, n01, Nat.reduceEqDiff, Nat.reduceLT, Nat.reduceAdd, Nat.reduceMul, reduceCtorEq, hnl, k6, n6, ab.1, ab.2.1, ab.2.2, eR, ex, q3]
              exact hnn (Bool.eq_false_iff.2 (fun z => by have := (fi.1 z).2; omega)) I2 g1 (fun _ _ => rfl)
            · simp (disch := omega) only [b_Planner_followFirst_40 hg, b_Planner_followFirst_53 hg, ↓reduceIte, nadd, nmul, nsub, nlt, neq, ncl, nvi, ndiv, nrem, exI, exJ, exV, eq_self, true_and, and_true, true_or, or_true, if_true, if_false, not_true, not_false_eq_true, false_and, and_false, decide_true, decide_false, bi_T, bi_F, bi_0, bi_1, bi_z, bft, n10, n01, Nat.reduceEqDiff, Nat.reduceLT, Nat.reduceAdd, Nat.reduceMul, reduceCtorEq, hnl, k6, n6, ab.1, ab.2.1, ab.2.2, eR, ex, q3]
              rw [← hn]
              refine c_passTo (S := S) (LF := LF) (had := had) hg hB hb hc hv hvhad (by rw [g1 44 (by decide)]; exact h14) (fun b2 hb2 => by rw [g1 46 (by decide)]; exact h46 b2 hb2) (by intro f b2 q hf hb2 hq; rw [g1 45 (by decide)]; exact hC f b2 q hf hb2 hq) g47 hbase ?_
              intro I3 r1 r2 r3
              refine ⟨_, rfl, ?_⟩
              have pb : (if b = 0 then 0 else pbt S LF (b - 1) had c) ≤ 54 := by
                split
                · omega
                · exact pbt_b
              rw [hn]
              simp (disch := omega) only [b_Planner_followFirst_69, ↓reduceIte, nadd, nmul, nsub, nlt, neq, ncl, nvi, ndiv, nrem, exI, exJ, exV, eq_self, true_and, and_true, true_or, or_true, if_true, if_false, not_true, not_false_eq_true, false_and, and_false, decide_true, decide_false, bi_T, bi_F, bi_0, bi_1, bi_z, bft, n10, n01, Nat.reduceEqDiff, Nat.reduceLT, Nat.reduceAdd, Nat.reduceMul, reduceCtorEq]
              have f1 : ∀ a, a ≠ 47 → I3 a = I a := fun a ha => (r1 a ha).trans (g1 a ha)
              by_cases q4 : cst S LF b c + (if b = 0 then 0 else pbt S LF (b - 1) had c) = left
              · rw [if_pos q4]
                exact hy (fi.2 ⟨q1, q4⟩) I3 f1 r2 r3 _ _
              · rw [if_neg q4]
                exact hnn (Bool.eq_false_iff.2 (fun z => q4 (fi.1 z).2)) I3 f1 r3
        refine dn ?_ ?_
        · intro I2 g1 g2 g47
          refine test _ c1 hlt hvc rfl I2 g1 g2 g47 (fun _ => ?_) (fun z => by rw [hyes] at z; cases z)
          intro I3 r1 r2 r3 v1 v3
          have rr := (hR b hb c1 hlt hvc).1
          have ecs : cst S LF b c1 = (dpS S LF (12 - b) c1).1 := by unfold cst; rfl
          have cb := cst_b (S := S) (LF := LF) (b := b) hlt
          rw [← ecs] at rr
          have eR : I3 (B + 1 + b) (ixm (S 10 2) (S 10 4) (fun j => sOn2 S j b) 6 c1) = nI (cst S LF b c1) := by
            rw [r1 _ (by omega)]
            refine rr ?_
            rcases cb with z | z
            · exact absurd z hcs
            · exact Nat.lt_of_le_of_lt z (by decide)
          rw [b_Planner_followFirst_74 hg]
          simp (disch := omega) only [b_Planner_followFirst_93, ↓reduceIte, nadd, nmul, nsub, nlt, neq, ncl, nvi, ndiv, nrem, exI, exJ, exV, eq_self, true_and, and_true, true_or, or_true, if_true, if_false, not_true, not_false_eq_true, false_and, and_false, decide_true, decide_false, bi_T, bi_F, bi_0, bi_1, bi_z, bft, n10, n01, Nat.reduceEqDiff, Nat.reduceLT, Nat.reduceAdd, Nat.reduceMul, reduceCtorEq, k6, n6, ab.1, ab.2.1, ab.2.2, eR]
          refine ih I3 r1 ?_ _ _
          intro b2 hb2 f hf ho
          by_cases z : b2 = b
          · rw [z, hc1]
            rw [z] at ho
            exact r2 f hf ho
          · rw [r3 _ (fun f2 hf2 => by omega)]
            exact g2 b2 (by omega) f hf ho
        · intro n hn ihn I2 g1 g2 g47
          obtain ⟨w1, w2, w3⟩ := cdm_ok (hk := S 10 4) hh (fun j => sOn2 S j b) 6 n (by omega)
          have hcl : cdm (S 10 2) (S 10 4) (fun j => sOn2 S j b) 6 n < c1 := by
            apply Classical.byContradiction
            intro z
            by_cases z2 : cdm (S 10 2) (S 10 4) (fun j => sOn2 S j b) 6 n = c1
            · rw [z2] at w3; omega
            · have := ixm_mono hh (fun j => sOn2 S j b) 6 c1 _ (show c1 < 4 ^ 6 from hlt) w1 hvc w2 (by omega)
              omega
          refine test n _ w1 w2 w3 I2 g1 g2 g47 (fun z => by rw [hno _ hcl] at z; cases z) (fun _ => ?_)
          intro I3 r1 r3
          rw [b_Planner_followFirst_87, nadd]
          refine ihn I3 r1 ?_ ?_
          · intro b2 hb2 f hf ho
            rw [r3 _ (fun f2 hf2 => by omega)]
            exact g2 b2 hb2 f hf ho
          · intro hb0 f hf ho
            rw [r3 _ (fun f2 hf2 => by omega)]
            exact g47 hb0 f hf ho
      exact look 0 (by omega) I2 g1 g2 h47
  have := key 0 (by omega) I (fun _ _ => rfl) (fun b2 hb2 => absurd hb2 (by omega))
  rw [fcS_02] at this
  exact this _ _
end FL
