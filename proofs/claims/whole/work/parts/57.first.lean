/-! ===== the Planner: the first of the least ===== -/
theorem isB_vd {S : Nat → Nat → Nat} (hB : SB S) {LF : aLF} {b c : Nat} (hb : b < 12) (h : isB S LF b c = true) : vdm (S 10 2) (S 10 4) (fun j => sOn2 S j b) 6 c = true := by
  rw [vd_iff]
  intro j hj
  show (if sOn2 S j b then _ else _) = true
  rw [sOn2_lt hb]
  cases q : sOn S j b
  · rcases isB_on hB h hj with z | z
    · rw [q] at z; cases z
    · exact decide_eq_true z
  · exact isB_vh hB h hj q
theorem cst_vd {S : Nat → Nat → Nat} (hB : SB S) {LF : aLF} {b c : Nat} (hb : b < 12) (h : cst S LF b c ≠ 1000000) : vdm (S 10 2) (S 10 4) (fun j => sOn2 S j b) 6 c = true := by
  unfold cst at h
  rw [show 12 - b = (11 - b) + 1 by omega] at h
  have e : dpS S LF (11 - b + 1) c = if isB S LF b c then bkS S LF b (dpS S LF (11 - b)) 6 c else (1000000, 0) := by
    show (if isB S LF (11 - (11 - b)) c then bkS S LF (11 - (11 - b)) (dpS S LF (11 - b)) 6 c else (1000000, 0)) = _
    rw [show 11 - (11 - b) = b by omega]
  rw [e] at h
  by_cases q : isB S LF b c = true
  · exact isB_vd hB hb q
  · rw [if_neg q] at h
    exact absurd rfl h
section FF
variable {d : Nat} {g : aG} {I : Nat → Nat → Int32} {J : Nat → Nat → Int64} {Q : aQ} {S : Nat → Nat → Nat} {LF : aLF}
theorem c_passTo {b c had : Nat} (hg : Geo g) (hB : SB S) (hb : b < 12) (hc : c < 4096) (hv : vdm (S 10 2) (S 10 4) (fun j => sOn2 S j b) 6 c = true) (hvh : 0 < b → vdm (S 10 2) (S 10 4) (fun j => sOn2 S j (b - 1)) 6 had = true) (h14 : I 44 14 = nI (bas (S 10 2) (S 10 4))) (h46 : ∀ b, b < 13 → I 46 b = nI (o2 S b)) (hC : CD S LF 12 0 0 I) (h47 : 0 < b → ∀ f, f < 6 → sOn2 S f (b - 1) = true → I 47 (f * 12 + (b - 1)) = nI (dO (S 10 2) (dg 6 had f))) (hbase : 0 < bas (S 10 2) (S 10 4) ∨ ∀ b2 j, sOn2 S j b2 = false)
    (hQ : ∀ I', (∀ a, a ≠ 47 → I' a = I a) → (∀ f, f < 6 → sOn2 S f b = true → I' 47 (f * 12 + b) = nI (dO (S 10 2) (dg 6 c f))) → (∀ i, (∀ f, f < 6 → i ≠ f * 12 + b) → I' 47 i = I 47 i) → Q (some (.int (nI (if b = 0 then 0 else pbt S LF (b - 1) had c)))) (g, I', J)) : a_call aTab aMX (d + 2) m_Planner_passTo [.ref 44, .int (nI b), .int (nI (ixm (S 10 2) (S 10 4) (fun j => sOn2 S j b) 6 c))] (g, I, J) Q := by
  have ht := sb10 hB
  have hh : S 10 2 ≤ 3 := ht.2.2.2.1
  have hbs : bas (S 10 2) (S 10 4) ≤ 4 := by unfold bas; split <;> omega
  have hvd := (vd_iff _ c).1 hv
  rw [e_Planner_passTo, b_Planner_passTo_0]
  rcases hbase with hb0 | hno
  rotate_left
  · -- nobody is on
    have ep : (if b = 0 then 0 else pbt S LF (b - 1) had c) = 0 := by
      split
      · rfl
      · unfold pbt
        refine sm_0 (fun k _ => ?_)
        unfold psv
        rw [if_neg (by rw [hno]; simp)]
    by_cases q : 0 < bas (S 10 2) (S 10 4)
    rotate_left
    · rw [b_Planner_passTo_8]
      simp (disch := omega) only [b_Planner_passTo_13 hg, b_Planner_passTo_125, ↓reduceIte, nadd, nmul, nsub, nlt, neq, ncl, nvi, ndiv, nrem, exI, exJ, exV, eq_self, true_and, and_true, true_or, or_true, if_true, if_false, not_true, not_false_eq_true, false_and, and_false, decide_true, decide_false, bi_T, bi_F, bi_0, bi_1, bi_z, bft, n10, n01, Nat.reduceEqDiff, Nat.reduceLT, Nat.reduceAdd, Nat.reduceMul, reduceCtorEq, h14, q, Nat.not_lt_zero]
      have := hQ I (fun _ _ => rfl) (fun f _ h => by rw [hno] at h; cases h) (fun _ _ => rfl)
      rw [ep] at this
      exact this
    · have em : ∀ c : Nat, nI c + (-1 : Int32) = nI c - nI 1 := fun c => by rw [Int32.sub_eq_add_neg]; rfl
      have e46 := h46 b (by omega)
      have eo : o2 S b = 0 := by
        unfold o2
        rw [bl_cong 6 (fun i _ => hno b i)]
        rfl
      have key : ∀ k, k ≤ 6 → ∀ v2 v3 v6, a_wp aTab aMX (d + 1) m_Planner_passTo 8 [.ref 44, .int (nI b), v2, .int v3, .int (nI 0), .int (nI k - nI 1), v6] [] (g, I, J) Q := by
        intro k
        induction k with
        | zero =>
          intro _ v2 v3 v6
          rw [b_Planner_passTo_8, if_pos (show nI 0 - nI 1 < nI 0 by decide), b_Planner_passTo_125]
          have := hQ I (fun _ _ => rfl) (fun f _ h => by rw [hno] at h; cases h) (fun _ _ => rfl)
          rw [ep] at this
          exact this
        | succ k ih =>
          intro hk v2 v3 v6
          have ih := ih (by omega)
          rw [b_Planner_passTo_8, nsub (by omega), Nat.add_sub_cancel]
          simp (disch := omega) only [b_Planner_passTo_13 hg, b_Planner_passTo_20 hg, b_Planner_passTo_34, b_Planner_passTo_119, ↓reduceIte, nadd, nmul, nsub, nlt, neq, ncl, nvi, ndiv, nrem, exI, exJ, exV, eq_self, true_and, and_true, true_or, or_true, if_true, if_false, not_true, not_false_eq_true, false_and, and_false, decide_true, decide_false, bi_T, bi_F, bi_0, bi_1, bi_z, bft, n10, n01, Nat.reduceEqDiff, Nat.reduceLT, Nat.reduceAdd, Nat.reduceMul, reduceCtorEq, h14, q, Nat.not_lt_zero, e46, eo, bt_sh, bt_nI, Nat.zero_testBit, em]
          exact ih _ _ _
      have := key 6 (Nat.le_refl _)
      rw [nsub (by decide)] at this
      exact this _ _ _
  · have em : ∀ c : Nat, nI c + (-1 : Int32) = nI c - nI 1 := fun c => by rw [Int32.sub_eq_add_neg]; rfl
    obtain ⟨tot, htot⟩ : ∃ tot, tot = if b = 0 then 0 else pbt S LF (b - 1) had c := ⟨_, rfl⟩
    rw [← htot] at hQ
    obtain ⟨gf, hgf⟩ : ∃ gf : Nat → Nat, gf = fun f => if b = 0 then 0 else psv S LF f (b - 1) (dg 6 had f) (dg 6 c f) := ⟨_, rfl⟩
    have htg : tot = fb_sm gf 6 := by
      rw [htot, hgf]
      by_cases z : b = 0
      · rw [if_pos z]
        exact (sm_0 (fun k _ => if_pos z)).symm
      · rw [if_neg z]
        unfold pbt
        exact fb_sm_cong (fun k _ => (if_neg z).symm)
    have gb : ∀ f, gf f ≤ 9 := fun f => by
      rw [hgf]
      show (if b = 0 then 0 else _) ≤ 9
      split
      · omega
      · exact psv_le _ _ _ _ _ _
    have htl : tot ≤ 54 := by rw [htg]; exact fb_sm_bound (c := 9) (n := 6) (fun k _ => gb k)
    have key : ∀ k, k ≤ 6 → ∀ (I2 : Nat → Nat → Int32) (x : Nat), (∀ a, a ≠ 47 → I2 a = I a) → (∀ f, k ≤ f → f < 6 → sOn2 S f b = true → I2 47 (f * 12 + b) = nI (dO (S 10 2) (dg 6 c f))) → (∀ i, (∀ f, f < 6 → i ≠ f * 12 + b) → I2 47 i = I 47 i) → x + fb_sm gf k = tot → ∀ v2 v6, a_wp aTab aMX (d + 1) m_Planner_passTo 8 [.ref 44, .int (nI b), v2, .int (nI (ixm (S 10 2) (S 10 4) (fun j => sOn2 S j b) k (c / 4 ^ (6 - k)))), .int (nI x), .int (nI k - nI 1), v6] [] (g, I2, J) Q := by
      intro k
      induction k with
      | zero =>
        intro _ I2 x g1 g2 g3 g4 v2 v6
        rw [b_Planner_passTo_8, if_pos (show nI 0 - nI 1 < nI 0 by decide), b_Planner_passTo_125]
        have : x = tot := g4
        rw [this]
        exact hQ I2 g1 (fun f hf ho => g2 f (by omega) hf ho) g3
      | succ k ih =>
        intro hk I2 x g1 g2 g3 g4 v2 v6
        have ih := ih (by omega)
        have x14 : I2 44 14 = nI (bas (S 10 2) (S 10 4)) := by rw [g1 44 (by decide)]; exact h14
        have x46 : I2 46 b = nI (o2 S b) := by rw [g1 46 (by decide)]; exact h46 b (by omega)
        have bitb : (o2 S b).testBit k = sOn2 S k b := by rw [o2_bit, decide_eq_true (by omega), Bool.true_and]
        have e1 : c / 4 ^ (6 - (k + 1)) / 4 = c / 4 ^ (6 - k) := by rw [Nat.div_div_eq_div_mul, ← Nat.pow_succ, show (6 - (k + 1)).succ = 6 - k by omega]
        have e2 : c / 4 ^ (6 - (k + 1)) % 4 = dg 6 c k := by unfold dg; rw [show 6 - 1 - k = 6 - (k + 1) by omega]
        have hixs : ixm (S 10 2) (S 10 4) (fun j => sOn2 S j b) (k + 1) (c / 4 ^ (6 - (k + 1))) = if sOn2 S k b then ixm (S 10 2) (S 10 4) (fun j => sOn2 S j b) k (c / 4 ^ (6 - k)) * bas (S 10 2) (S 10 4) + dO (S 10 2) (dg 6 c k) else ixm (S 10 2) (S 10 4) (fun j => sOn2 S j b) k (c / 4 ^ (6 - k)) := by rw [ixm_s, e1, e2]
        have hil : ixm (S 10 2) (S 10 4) (fun j => sOn2 S j b) (k + 1) (c / 4 ^ (6 - (k + 1))) < 4096 := by
          have h1 := vd_split _ c hv (6 - (k + 1)) (by omega)
          rw [show 6 - (6 - (k + 1)) = k + 1 by omega] at h1
          exact Nat.lt_of_lt_of_le (ixm_lt _ (k + 1) _ h1) (Nat.le_trans (pwm_le hh _ (k + 1)) (show 4 ^ (k + 1) ≤ 4 ^ 6 from Nat.pow_le_pow_right (by decide) (by omega)))
        have gs : fb_sm gf (k + 1) = fb_sm gf k + gf k := fb_sm_succ gf k
        have gbk := gb k
        rw [b_Planner_passTo_8, nsub (by omega), Nat.add_sub_cancel]
        have hkc := hvd k (by omega)
        cases q : sOn2 S k b
        · -- off
          rw [q, if_neg (by decide)] at hixs
          have g0 : gf k = 0 := by
            rw [hgf]
            show (if b = 0 then 0 else _) = 0
            split
            · rfl
            · unfold psv
              rw [if_neg (by rw [show b - 1 + 1 = b by omega, q, Bool.and_false]; simp)]
          rw [hixs]
          simp (disch := omega) only [b_Planner_passTo_13 hg, b_Planner_passTo_20 hg, b_Planner_passTo_34, b_Planner_passTo_119, ↓reduceIte, nadd, nmul, nsub, nlt, neq, ncl, nvi, ndiv, nrem, exI, exJ, exV, eq_self, true_and, and_true, true_or, or_true, if_true, if_false, not_true, not_false_eq_true, false_and, and_false, decide_true, decide_false, bi_T, bi_F, bi_0, bi_1, bi_z, bft, n10, n01, Nat.reduceEqDiff, Nat.reduceLT, Nat.reduceAdd, Nat.reduceMul, reduceCtorEq, x14, hb0, Nat.not_lt_zero, x46, bt_sh, bt_nI, bitb, q, em]
          refine ih I2 x g1 ?_ g3 (by omega) _ _
          intro f hf1 hf2 ho
          by_cases z : f = k
          · rw [z, q] at ho; cases ho
          · exact g2 f (by omega) hf2 ho
        · -- on
          rw [q] at hkc
          have hkc : vh (S 10 2) (S 10 4) (dg 6 c k) = true := hkc
          rw [q, if_pos rfl] at hixs
          have hdl := dO_lt hkc
          have r1 : ixm (S 10 2) (S 10 4) (fun j => sOn2 S j b) (k + 1) (c / 4 ^ (6 - (k + 1))) % bas (S 10 2) (S 10 4) = dO (S 10 2) (dg 6 c k) := by rw [hixs, Nat.add_comm, Nat.add_mul_mod_self_right, Nat.mod_eq_of_lt hdl]
          have r2 : ixm (S 10 2) (S 10 4) (fun j => sOn2 S j b) (k + 1) (c / 4 ^ (6 - (k + 1))) / bas (S 10 2) (S 10 4) = ixm (S 10 2) (S 10 4) (fun j => sOn2 S j b) k (c / 4 ^ (6 - k)) := by rw [hixs, Nat.add_comm, Nat.add_mul_div_right _ _ hb0, Nat.div_eq_of_lt hdl, Nat.zero_add]
          generalize ixm (S 10 2) (S 10 4) (fun j => sOn2 S j b) (k + 1) (c / 4 ^ (6 - (k + 1))) = n at *
          have eI : nI n - nI n / nI (bas (S 10 2) (S 10 4)) * nI (bas (S 10 2) (S 10 4)) = nI (dO (S 10 2) (dg 6 c k)) := by rw [nrem (by omega) hb0 (by omega), r1]
          have eD : nI n / nI (bas (S 10 2) (S 10 4)) = nI (ixm (S 10 2) (S 10 4) (fun j => sOn2 S j b) k (c / 4 ^ (6 - k))) := by rw [ndiv (by omega) hb0 (by omega), r2]
          generalize hI3 : u2 I2 47 (k * 12 + b) (nI (dO (S 10 2) (dg 6 c k))) = I3
          have y14 : I3 44 14 = nI (bas (S 10 2) (S 10 4)) := by rw [← hI3, u2_a (by decide)]; exact x14
          have nb : ¬ nI (bas (S 10 2) (S 10 4)) = nI 0 := by rw [neq (by omega) (by omega)]; omega
          have g1' : ∀ a, a ≠ 47 → I3 a = I a := fun a ha => by rw [← hI3, u2_r ha]; exact g1 a ha
          have g2' : ∀ f, k ≤ f → f < 6 → sOn2 S f b = true → I3 47 (f * 12 + b) = nI (dO (S 10 2) (dg 6 c f)) := by
            intro f hf1 hf2 ho
            rw [← hI3]
            by_cases z : f = k
            · rw [z, u2_s]
            · rw [u2_k (by omega)]
              exact g2 f (by omega) hf2 ho
          have g3' : ∀ i, (∀ f, f < 6 → i ≠ f * 12 + b) → I3 47 i = I 47 i := by
            intro i hi
            rw [← hI3, u2_k (hi k (by omega))]
            exact g3 i hi
          have nxt : ∀ y : Nat, y + fb_sm gf k = tot → ∀ v2 v6, a_wp aTab aMX (d + 1) m_Planner_passTo 119 [.ref 44, .int (nI b), v2, .int (nI (ixm (S 10 2) (S 10 4) (fun j => sOn2 S j b) k (c / 4 ^ (6 - k)))), .int (nI y), .int (nI k), v6] [] (g, I3, J) Q := by
            intro y hy v2 v6
            rw [b_Planner_passTo_119, em]
            exact ih I3 y g1' g2' g3' hy _ _
          simp (disch := omega) only [b_Planner_passTo_13 hg, b_Planner_passTo_20 hg, ↓reduceIte, nadd, nmul, nsub, nlt, neq, ncl, nvi, ndiv, nrem, exI, exJ, exV, eq_self, true_and, and_true, true_or, or_true, if_true, if_false, not_true, not_false_eq_true, false_and, and_false, decide_true, decide_false, bi_T, bi_F, bi_0, bi_1, bi_z, bft, n10, n01, Nat.reduceEqDiff, Nat.reduceLT, Nat.reduceAdd, Nat.reduceMul, reduceCtorEq, x14, hb0, Nat.not_lt_zero, x46, bt_sh, bt_nI, bitb, q]
          rw [b_Planner_passTo_37 hg, x14, eI]
          simp (disch := omega) only [nmul, nadd, ncl, nvi, true_and, hI3]
          rw [y14, eD]
          simp only [nb, not_false_eq_true, true_and]
          by_cases zb : b = 0
          · have g0 : gf k = 0 := by rw [hgf]; exact if_pos zb
            rw [if_neg (show ¬ nI 0 < nI b by rw [nlt (by omega) (by omega)]; omega)]
            exact nxt x (by omega) _ _
          · rw [if_pos (show nI 0 < nI b by rw [nlt (by omega) (by omega)]; omega)]
            have y46 : I3 46 (b - 1) = nI (o2 S (b - 1)) := by rw [g1' 46 (by decide)]; exact h46 (b - 1) (by omega)
            have bitp : (o2 S (b - 1)).testBit k = sOn2 S k (b - 1) := by rw [o2_bit, decide_eq_true (by omega), Bool.true_and]
            cases q2 : sOn2 S k (b - 1)
            · have g0 : gf k = 0 := by
                rw [hgf]
                show (if b = 0 then 0 else _) = 0
                rw [if_neg zb]
                unfold psv
                rw [if_neg (by rw [q2, Bool.false_and]; simp)]
              simp (disch := omega) only [b_Planner_passTo_70 hg, ↓reduceIte, nadd, nmul, nsub, nlt, neq, ncl, nvi, ndiv, nrem, exI, exJ, exV, eq_self, true_and, and_true, true_or, or_true, if_true, if_false, not_true, not_false_eq_true, false_and, and_false, decide_true, decide_false, bi_T, bi_F, bi_0, bi_1, bi_z, bft, n10, n01, Nat.reduceEqDiff, Nat.reduceLT, Nat.reduceAdd, Nat.reduceMul, reduceCtorEq, y46, bt_sh, bt_nI, bitp, q2]
              exact nxt x (by omega) _ _
            · have hhv := (vd_iff _ had).1 (hvh (by omega)) k (by omega)
              have hhv : (if sOn2 S k (b - 1) then vh (S 10 2) (S 10 4) (dg 6 had k) else _) = true := hhv
              rw [q2] at hhv
              have hhv : vh (S 10 2) (S 10 4) (dg 6 had k) = true := hhv
              have hdh := dO_lt hhv
              have p47 : I3 47 (k * 12 + b - 1) = nI (dO (S 10 2) (dg 6 had k)) := by
                rw [show k * 12 + b - 1 = k * 12 + (b - 1) by omega, g3' _ (fun f _ => by omega)]
                exact h47 (by omega) k (by omega) q2
              have c47 : I3 47 (k * 12 + b) = nI (dO (S 10 2) (dg 6 c k)) := by rw [← hI3, u2_s]
              have cC := hC k b (dO (S 10 2) (dg 6 had k) * 4 + dO (S 10 2) (dg 6 c k)) (by omega) hb (by omega)
              rw [if_pos (by omega)] at cC
              have c45 : I3 45 ((k * 12 + b) * 16 + dO (S 10 2) (dg 6 had k) * 4 + dO (S 10 2) (dg 6 c k)) = nI (gf k) := by
                rw [g1' 45 (by decide), Nat.add_assoc, cC]
                congr 1
                rw [hgf]
                show _ = (if b = 0 then 0 else psv S LF k (b - 1) (dg 6 had k) (dg 6 c k))
                unfold tg
                rw [if_neg zb, show (dO (S 10 2) (dg 6 had k) * 4 + dO (S 10 2) (dg 6 c k)) / 4 = dO (S 10 2) (dg 6 had k) by omega, show (dO (S 10 2) (dg 6 had k) * 4 + dO (S 10 2) (dg 6 c k)) % 4 = dO (S 10 2) (dg 6 c k) by omega, if_pos ⟨by omega, hdh, hdl⟩, hO_dO hh hhv, hO_dO hh hkc]
              simp (disch := omega) only [b_Planner_passTo_70 hg, b_Planner_passTo_87 hg, ↓reduceIte, nadd, nmul, nsub, nlt, neq, ncl, nvi, ndiv, nrem, exI, exJ, exV, eq_self, true_and, and_true, true_or, or_true, if_true, if_false, not_true, not_false_eq_true, false_and, and_false, decide_true, decide_false, bi_T, bi_F, bi_0, bi_1, bi_z, bft, n10, n01, Nat.reduceEqDiff, Nat.reduceLT, Nat.reduceAdd, Nat.reduceMul, reduceCtorEq, y46, bt_sh, bt_nI, bitp, q2, p47, c47, c_costAt]
              simp (disch := omega) only [b_Planner_passTo_115 hg, ↓reduceIte, nadd, nmul, nsub, nlt, neq, ncl, nvi, ndiv, nrem, exI, exJ, exV, eq_self, true_and, and_true, true_or, or_true, if_true, if_false, not_true, not_false_eq_true, false_and, and_false, decide_true, decide_false, bi_T, bi_F, bi_0, bi_1, bi_z, bft, n10, n01, Nat.reduceEqDiff, Nat.reduceLT, Nat.reduceAdd, Nat.reduceMul, reduceCtorEq, c45]
              exact nxt (x + gf k) (by omega) _ _
    have := key 6 (Nat.le_refl _) I 0 (fun _ _ => rfl) (fun f h1 h2 => by omega) (fun _ _ => rfl) (by omega)
    rw [show 6 - 6 = 0 by omega, Nat.pow_zero, Nat.div_one, nsub (by decide)] at this
    exact this _ _
end FF
