/-! ===== carryBack ===== -/
def X13 (I I' : Nat → Nat → Int32) : Prop := ∀ a k, ¬ (a = 44 ∧ k = 13) → I' a k = I a k
theorem X13_rf {I : Nat → Nat → Int32} : X13 I I := fun _ _ _ => rfl
theorem X13_u {I I2 : Nat → Nat → Int32} {z : Int32} (h : X13 I I2) : X13 I (u2 I2 44 13 z) := fun a k h1 => by
  rw [show u2 I2 44 13 z a k = I2 a k from if_neg h1]
  exact h a k h1
theorem X13_r {I I2 : Nat → Nat → Int32} (h : X13 I I2) {a : Nat} (ha : a ≠ 44) : I2 a = I a := funext (fun k => h a k (by omega))
section CB
variable {d : Nat} {g : aG} {I : Nat → Nat → Int32} {J : Nat → Nat → Int64} {Q : aQ} {S : Nat → Nat → Nat} {LF : aLF}
/-- one figure: what the machine must do is what the spec does -/
theorem mix_step {n hp hk b f : Nat} {M : aM} {A A2 : Nat → Int64} {outs ins : Nat} {ct : Nat → Nat → Nat} (hh : hp ≤ 3) (hf : f < 6) {k : Nat} (hF : FB k M) (hk9 : k ≤ 900000) (hI : ∀ c, c < 4096 → ∀ j, f ≤ j → j < 6 → sOn2 S j (b + 1) = true → vh hp hk (dg 6 c j) = false → (M c).1 = 1000000)
    (eo : outs = if sOn2 S f b then bas hp hk else 1) (ei : ins = if sOn2 S f (b + 1) then bas hp hk else 1)
    (hct : ∀ x y, x < outs → y < ins → ct x y = if sOn2 S f b && sOn2 S f (b + 1) then psv S LF f b (hO hp x) (hO hp y) else 0)
    (hA2 : ∀ e i, e < pwm hp hk (fun j => sOn2 S j b) f * outs → i < pl hp hk (fun j => sOn2 S j (b + 1)) (5 - f) → ER n (A2 (e * pl hp hk (fun j => sOn2 S j (b + 1)) (5 - f) + i)) ((fo (fun y => M (cdm hp hk (pat S b f) 6 ((e / outs * ins + y) * pl hp hk (fun j => sOn2 S j (b + 1)) (5 - f) + i))) (ct (e % outs)) ins).1, min 1000000000 (fo (fun y => M (cdm hp hk (pat S b f) 6 ((e / outs * ins + y) * pl hp hk (fun j => sOn2 S j (b + 1)) (5 - f) + i))) (ct (e % outs)) ins).2)) :
    AR n hp hk (pat S b (f + 1)) A2 (bk1 S LF b f M) := by
  intro c hc hv
  have hvd := (vd_iff (pat S b (f + 1)) c).1 hv
  have hpf : pat S b (f + 1) f = sOn2 S f b := by unfold pat; rw [if_pos (by omega)]
  have hpf0 : pat S b f f = sOn2 S f (b + 1) := by unfold pat; rw [if_neg (by omega)]
  -- the number's parts
  have eu : ixm hp hk (pat S b (f + 1)) f (c / 4 ^ (6 - f)) = ixm hp hk (pat S b f) f (c / 4 ^ (6 - f)) := ixm_cong f _ (fun j hj => by unfold pat; rw [if_pos (by omega), if_pos (by omega)])
  have epl : ∀ f2, f ≤ f2 → f2 ≤ f + 1 → pl hp hk (pat S b f2) (5 - f) = pl hp hk (fun j => sOn2 S j (b + 1)) (5 - f) := fun f2 h1 h2 => pl_cong (5 - f) (by omega) (fun i h3 h4 => by unfold pat; rw [if_neg (by omega)])
  have epl1 := epl (f + 1) (by omega) (by omega)
  have epl0 := epl f (by omega) (by omega)
  have hl := lw_lt (pat S b (f + 1)) c hv (5 - f) (by omega)
  have hu : ixm hp hk (pat S b (f + 1)) f (c / 4 ^ (6 - f)) < pwm hp hk (fun j => sOn2 S j b) f := by
    have h1 := ixm_lt (pat S b (f + 1)) f (c / 4 ^ (6 - f)) (by have := vd_split (pat S b (f + 1)) c hv (6 - f) (by omega); rw [show 6 - (6 - f) = f by omega] at this; exact this)
    rw [pwm_cong f (fun j hj => by unfold pat; rw [if_pos (by omega)] : ∀ j, j < f → pat S b (f + 1) j = (fun j => sOn2 S j b) j)] at h1
    exact h1
  have hix := ix_f (hp := hp) (hk := hk) (pat S b (f + 1)) (c := c) hf
  rw [hpf, epl1] at hix
  rw [epl1] at hl
  -- digit of this figure
  have hdg := hvd f hf
  rw [hpf] at hdg
  have hd4 := dg_lt (c := c) (f := f)
  generalize hou : ixm hp hk (pat S b (f + 1)) f (c / 4 ^ (6 - f)) = o at *
  generalize hlo : lw hp hk (pat S b (f + 1)) c (5 - f) = i at *
  generalize hin : pl hp hk (fun j => sOn2 S j (b + 1)) (5 - f) = inner at *
  -- the sources
  have src : ∀ t, t < 4 → (if sOn2 S f (b + 1) then vh hp hk t else decide (t = 0)) = true → cdm hp hk (pat S b f) 6 ((if sOn2 S f (b + 1) then o * bas hp hk + dO hp t else o) * inner + i) = sd c f t := by
    intro t ht htv
    have hs := sd_lt hc hf ht
    have hvs : vdm hp hk (pat S b f) 6 (sd c f t) = true := by
      rw [vd_iff]
      intro j hj
      rw [dg_sd hc hf ht hj]
      by_cases q : j = f
      · rw [if_pos q, q, hpf0]
        exact htv
      · rw [if_neg q]
        have := hvd j hj
        have ep : pat S b (f + 1) j = pat S b f j := by
          unfold pat
          by_cases q2 : j < f
          · rw [if_pos q2, if_pos (by omega)]
          · rw [if_neg q2, if_neg (by omega)]
        rw [ep] at this
        exact this
    have hix2 := ix_f (hp := hp) (hk := hk) (pat S b f) (c := sd c f t) hf
    rw [hpf0, epl0, sd_hi hc hf ht, ← eu, dg_sd hc hf ht hf, if_pos rfl] at hix2
    have elw : lw hp hk (pat S b f) (sd c f t) (5 - f) = i := by
      rw [← hlo]
      refine lw_cong (5 - f) (by omega) (fun j h1 h2 => ⟨?_, ?_⟩)
      · unfold pat; rw [if_neg (by omega), if_neg (by omega)]
      · rw [dg_sd hc hf ht (by omega), if_neg (by omega)]
    rw [elw] at hix2
    rw [← hix2]
    exact cdm_ixm hh _ 6 _ hs hvs
  have hrow : (sOn2 S f b = true ∨ dg 6 c f = 0) := by
    cases q : sOn2 S f b
    · rw [q] at hdg
      exact Or.inr (of_decide_eq_true hdg)
    · exact Or.inl rfl
  have eb : bk1 S LF b f M c = ((mt M (psv S LF f b (dg 6 c f)) c f (if sOn2 S f (b + 1) then 4 else 1)).1, min 1000000000 (mt M (psv S LF f b (dg 6 c f)) c f (if sOn2 S f (b + 1) then 4 else 1)).2) := by
    unfold bk1
    rw [if_pos hrow]
  rw [eb]
  -- the number as e and i
  obtain ⟨e, he1, he2, he3, he4⟩ : ∃ e, ixm hp hk (pat S b (f + 1)) 6 c = e * inner + i ∧ e < pwm hp hk (fun j => sOn2 S j b) f * outs ∧ e / outs = o ∧ ((sOn2 S f b = true → hO hp (e % outs) = dg 6 c f) ∧ e % outs < outs) := by
    cases q : sOn2 S f b
    · rw [q] at hix eo
      have eo : outs = 1 := eo
      refine ⟨o, hix, by rw [eo, Nat.mul_one]; exact hu, by rw [eo, Nat.div_one], fun z => (by cases z), by rw [eo]; omega⟩
    · rw [q] at hix eo hdg
      have eo : outs = bas hp hk := eo
      have hdv : vh hp hk (dg 6 c f) = true := hdg
      have h3 := dO_lt hdv
      refine ⟨o * bas hp hk + dO hp (dg 6 c f), hix, ?_, ?_, ?_, ?_⟩
      · rw [eo]
        have : (o + 1) * bas hp hk ≤ pwm hp hk (fun j => sOn2 S j b) f * bas hp hk := Nat.mul_le_mul_right _ hu
        rw [Nat.add_mul, Nat.one_mul] at this
        omega
      · rw [eo, Nat.add_comm, Nat.add_mul_div_right _ _ (by omega), Nat.div_eq_of_lt h3, Nat.zero_add]
      · intro _
        rw [eo, Nat.add_comm, Nat.add_mul_mod_self_right, Nat.mod_eq_of_lt h3]
        exact hO_dO hh hdv
      · rw [eo]; exact Nat.mod_lt _ (by omega)
  have hER := hA2 e i he2 hl
  rw [← he1, he3] at hER
  -- the folds are the same
  have key : fo (fun y => M (cdm hp hk (pat S b f) 6 ((o * ins + y) * inner + i))) (ct (e % outs)) ins = mt M (psv S LF f b (dg 6 c f)) c f (if sOn2 S f (b + 1) then 4 else 1) := by
    have small : ∀ t, t < 4 → (M (sd c f t)).1 < 1000000 → (M (sd c f t)).1 + psv S LF f b (dg 6 c f) t < 1000000 := by
      intro t ht hlt
      have := (hF (sd c f t) (sd_lt hc hf ht)).1
      have := psv_le S LF f b (dg 6 c f) t
      omega
    cases q : sOn2 S f (b + 1)
    · rw [q] at ei
      have ei : ins = 1 := ei
      have s0 := src 0 (by decide) (by rw [q]; rfl)
      rw [q] at s0
      have s0 : cdm hp hk (pat S b f) 6 (o * inner + i) = sd c f 0 := s0
      rw [ei, if_neg (by decide)]
      rw [mt_s (small 0 (by decide))]
      show stp (1000000, 0) _ _ = stp (1000000, 0) _ _
      have e0 : (o * 1 + 0) * inner + i = o * inner + i := by rw [Nat.mul_one, Nat.add_zero]
      have c0 : ct (e % outs) 0 = psv S LF f b (dg 6 c f) 0 := by
        rw [hct (e % outs) 0 he4.2 (by omega), q, Bool.and_false, if_neg (by decide)]
        unfold psv
        rw [if_neg (by rw [q, Bool.and_false]; simp)]
      simp only [e0, s0, c0]
    · rw [q] at ei
      have ei : ins = bas hp hk := ei
      rw [if_pos rfl, mt_fo hh small (fun t ht hz => hI (sd c f t) (sd_lt hc hf ht) f (Nat.le_refl _) hf q (by rw [dg_sd hc hf ht hf, if_pos rfl]; exact hz)), ei]
      apply fo_cong
      intro y hy
      have s0 := src (hO hp y) (hO_lt hh) (by rw [q]; exact vh_hO hy)
      rw [q] at s0
      have s0 : cdm hp hk (pat S b f) 6 ((o * bas hp hk + dO hp (hO hp y)) * inner + i) = sd c f (hO hp y) := s0
      rw [dO_hO hh hy] at s0
      refine ⟨by rw [s0], ?_⟩
      rw [hct (e % outs) y he4.2 (by rw [ei]; exact hy), q, Bool.and_true]
      cases q2 : sOn2 S f b
      · rw [if_neg (by decide)]
        unfold psv
        rw [if_neg (by rw [q2]; simp)]
      · rw [if_pos rfl, he4.1 q2]
  rw [key] at hER
  exact hER
theorem c_carryBack {B nw n b k : Nat} {M : aM} (hg : Geo g) (hB : SB S) (hP : PG g B) (hw : nw < 2) (h13 : I 44 13 = nI nw) (h14 : I 44 14 = nI (bas (S 10 2) (S 10 4))) (hb : b < 12) (h46 : ∀ b, b < 13 → I 46 b = nI (o2 S b)) (hC : CD S LF 12 0 0 I) (hF : FB k M) (hk : k ≤ 10000) (hn : n ≤ 9000) (hI : IV (S 10 2) (S 10 4) (fun j => sOn2 S j (b + 1)) M) (hbase : 0 < bas (S 10 2) (S 10 4) ∨ ∀ b2 j, sOn2 S j b2 = false)
    (hA : AR n (S 10 2) (S 10 4) (fun j => sOn2 S j (b + 1)) (J (B + 14 + nw)) M)
    (hQ : ∀ nw' I' J', nw' < 2 → X13 I I' → I' 44 13 = nI nw' → Fr [B + 14, B + 15] J J' → AR (n + 54) (S 10 2) (S 10 4) (fun j => sOn2 S j b) (J' (B + 14 + nw')) (bkS S LF b M 6) → Q none (g, I', J')) : a_call aTab aMX (d + 3) m_Planner_carryBack [.ref 44, .int (nI b)] (g, I, J) Q := by
  have ht := sb10 hB
  have hh : S 10 2 ≤ 3 := ht.2.2.2.1
  have hbs : bas (S 10 2) (S 10 4) ≤ 4 := by unfold bas; split <;> omega
  generalize ehp : S 10 2 = hp at *
  generalize ehk : S 10 4 = hk2 at *
  have pat0 : ∀ j, pat S b 0 j = sOn2 S j (b + 1) := fun j => by unfold pat; rw [if_neg (by omega)]
  have pat6 : ∀ j, j < 6 → pat S b 6 j = sOn2 S j b := fun j hj => by unfold pat; rw [if_pos hj]
  rw [e_Planner_carryBack, b_Planner_carryBack_0]
  have key : ∀ f, f ≤ 6 → ∀ nw I2 J2, nw < 2 → X13 I I2 → I2 44 13 = nI nw → Fr [B + 14, B + 15] J J2 → AR (n + 9 * f) hp hk2 (pat S b f) (J2 (B + 14 + nw)) (bkS S LF b M f) → ∀ v4 v5 v6 v7, a_wp aTab aMX (d + 2) m_Planner_carryBack 4 [.ref 44, .int (nI b), .int (nI (pwm hp hk2 (fun j => sOn2 S j b) f)), .int (nI f), v4, v5, v6, v7] [] (g, I2, J2) Q := by
    refine dn ?_ ?_
    · intro nw I2 J2 hw g1 g2 g3 g4 v4 v5 v6 v7
      simp (disch := omega) only [b_Planner_carryBack_4, b_Planner_carryBack_177, ↓reduceIte, nadd, nmul, nsub, nlt, neq, ncl, nvi, ndiv, nrem, exI, exJ, exV, eq_self, true_and, and_true, true_or, or_true, if_true, if_false, not_true, not_false_eq_true, false_and, and_false, decide_true, decide_false, bi_T, bi_F, bi_0, bi_1, bi_z, bft, n10, n01, Nat.reduceEqDiff, Nat.reduceLT, Nat.reduceAdd, Nat.reduceMul, reduceCtorEq, Nat.lt_irrefl]
      refine hQ nw I2 J2 hw g1 g2 g3 ?_
      intro c hc hv
      have e1 : vdm hp hk2 (pat S b 6) 6 c = vdm hp hk2 (fun j => sOn2 S j b) 6 c := by
        rw [Bool.eq_iff_iff, vd_iff, vd_iff]
        constructor
        · intro h j hj; have := h j hj; rw [pat6 j hj] at this; exact this
        · intro h j hj; rw [pat6 j hj]; exact h j hj
      have e2 : ixm hp hk2 (pat S b 6) 6 c = ixm hp hk2 (fun j => sOn2 S j b) 6 c := ixm_cong 6 c pat6
      have := g4 c hc (by rw [e1]; exact hv)
      rw [e2] at this
      exact this
    · intro f hf ih nw I2 J2 hw g1 g2 g3 g4 v4 v5 v6 v7
      have a46 : I2 46 = I 46 := X13_r g1 (by decide)
      have x0 : I2 46 b = nI (o2 S b) := by rw [a46]; exact h46 b (by omega)
      have x1 : I2 46 (b + 1) = nI (o2 S (b + 1)) := by rw [a46]; exact h46 (b + 1) (by omega)
      have x14 : I2 44 14 = nI (bas hp hk2) := by rw [g1 44 14 (by omega)]; exact h14
      have bt0 : (o2 S b).testBit f = sOn2 S f b := by rw [o2_bit, decide_eq_true hf, Bool.true_and]
      have bt1 : (o2 S (b + 1)).testBit f = sOn2 S f (b + 1) := by rw [o2_bit, decide_eq_true hf, Bool.true_and]
      have hFf := bkS_b (S := S) (LF := LF) (b := b) hF hk f (by omega)
      have hIf := bk_inv (S := S) (LF := LF) hI f (by omega)
      have o2l := o2_lt S (b + 1)
      rw [show n + 9 * (f + 1) = n + 9 * f + 9 by omega] at ih
      have hpw : pwm hp hk2 (fun j => sOn2 S j b) (f + 1) = if sOn2 S f b then pwm hp hk2 (fun j => sOn2 S j b) f * bas hp hk2 else pwm hp hk2 (fun j => sOn2 S j b) f := rfl
      by_cases q : sOn2 S f b = false ∧ sOn2 S f (b + 1) = false
      · -- off on both
        rw [q.1, if_neg (by decide)] at hpw
        rw [hpw] at ih
        rw [b_Planner_carryBack_4]
        simp (disch := omega) only [b_Planner_carryBack_10 hg, b_Planner_carryBack_28, b_Planner_carryBack_29 hg, b_Planner_carryBack_51, b_Planner_carryBack_52, b_Planner_carryBack_59, b_Planner_carryBack_64, b_Planner_carryBack_171, ↓reduceIte, nadd, nmul, nsub, nlt, neq, ncl, nvi, ndiv, nrem, exI, exJ, exV, eq_self, true_and, and_true, true_or, or_true, if_true, if_false, not_true, not_false_eq_true, false_and, and_false, decide_true, decide_false, bi_T, bi_F, bi_0, bi_1, bi_z, bft, n10, n01, Nat.reduceEqDiff, Nat.reduceLT, Nat.reduceAdd, Nat.reduceMul, reduceCtorEq, hf, x0, x1, bt_sh, bt_nI, bt0, bt1, q.1, q.2]
        refine ih nw I2 J2 hw g1 g2 g3 ?_ _ _ _ _
        have epat : ∀ j, pat S b (f + 1) j = pat S b f j := by
          intro j
          unfold pat
          by_cases z : j < f
          · rw [if_pos z, if_pos (by omega)]
          · rw [if_neg z]
            by_cases z2 : j = f
            · rw [z2, if_pos (by omega), q.1, q.2]
            · rw [if_neg (by omega)]
        have epat : pat S b (f + 1) = pat S b f := funext epat
        rw [epat]
        intro c hc hv
        have h0 := g4 c hc hv
        have hd0 := (vd_iff _ c).1 hv f hf
        rw [show pat S b f f = false by unfold pat; rw [if_neg (by omega)]; exact q.2] at hd0
        have hd0 : dg 6 c f = 0 := of_decide_eq_true hd0
        have hsd : sd c f 0 = c := by have := sd_same hc hf; rw [hd0] at this; exact this
        have hFc := hFf c hc
        show ER _ _ (bk1 S LF b f (bkS S LF b M f) c)
        unfold bk1
        rw [if_pos (Or.inr hd0), q.2, if_neg (by decide)]
        have ep : psv S LF f b (dg 6 c f) 0 = 0 := by unfold psv; rw [if_neg (by rw [q.1]; simp)]
        rw [mt_s (by rw [hsd, ep]; omega), hsd, ep]
        generalize bkS S LF b M f c = x at *
        show ER _ _ ((stp (1000000, 0) _ _).1, min 1000000000 (stp (1000000, 0) _ _).2)
        unfold stp
        rcases h0 with ⟨z1, z2⟩ | ⟨z1, e, z2, z3⟩
        · rw [if_pos z1, if_pos (show x.1 + 0 < 1000000 ∧ x.1 + 0 ≤ 1000000 by omega), if_pos (show x.1 + 0 < 1000000 by omega)]
          left
          refine ⟨by show x.1 + 0 < 1000000; omega, ?_⟩
          rw [z2]
          show _ = lN ((x.1 + 0) * 4294967296 + min 1000000000 (0 + x.2))
          rw [show (x.1 + 0) * 4294967296 + min 1000000000 (0 + x.2) = x.1 * 4294967296 + x.2 by omega]
        · rw [if_neg (show ¬ x.1 < 1000000 by omega), if_neg (show ¬ (1000000 < 1000000 ∧ 1000000 ≤ 1000000) by omega)]
          exact Or.inr ⟨rfl, e, by omega, z3⟩
      · -- mixed
        have hb0 : 0 < bas hp hk2 := by
          rcases hbase with z | z
          · exact z
          · exact absurd ⟨z b f, z (b + 1) f⟩ q
        obtain ⟨pls, pcl⟩ := o2_pl (S := S) (hp := hp) (hk := hk2) (b := b + 1) hf
        have hpl6 : pwm hp hk2 (pat S b f) 6 = (if sOn2 S f (b + 1) then pwm hp hk2 (fun j => sOn2 S j b) f * bas hp hk2 else pwm hp hk2 (fun j => sOn2 S j b) f) * pl hp hk2 (fun j => sOn2 S j (b + 1)) (5 - f) := by
          rw [pw_split (pat S b f) (5 - f) (by omega), show 6 - (5 - f) = f + 1 by omega]
          have e1 : pl hp hk2 (pat S b f) (5 - f) = pl hp hk2 (fun j => sOn2 S j (b + 1)) (5 - f) := pl_cong (5 - f) (by omega) (fun i h3 h4 => by unfold pat; rw [if_neg (by omega)])
          have e2 : pwm hp hk2 (pat S b f) f = pwm hp hk2 (fun j => sOn2 S j b) f := pwm_cong f (fun j hj => by unfold pat; rw [if_pos hj])
          rw [e1]
          show (if pat S b f f then pwm hp hk2 (pat S b f) f * bas hp hk2 else pwm hp hk2 (pat S b f) f) * _ = _
          rw [e2, show pat S b f f = sOn2 S f (b + 1) by unfold pat; rw [if_neg (by omega)]]
        have hpl6b : pwm hp hk2 (pat S b (f + 1)) 6 = (if sOn2 S f b then pwm hp hk2 (fun j => sOn2 S j b) f * bas hp hk2 else pwm hp hk2 (fun j => sOn2 S j b) f) * pl hp hk2 (fun j => sOn2 S j (b + 1)) (5 - f) := by
          rw [pw_split (pat S b (f + 1)) (5 - f) (by omega), show 6 - (5 - f) = f + 1 by omega]
          have e1 : pl hp hk2 (pat S b (f + 1)) (5 - f) = pl hp hk2 (fun j => sOn2 S j (b + 1)) (5 - f) := pl_cong (5 - f) (by omega) (fun i h3 h4 => by unfold pat; rw [if_neg (by omega)])
          have e2 : pwm hp hk2 (pat S b (f + 1)) f = pwm hp hk2 (fun j => sOn2 S j b) f := pwm_cong f (fun j hj => by unfold pat; rw [if_pos (by omega)])
          rw [e1]
          show (if pat S b (f + 1) f then pwm hp hk2 (pat S b (f + 1)) f * bas hp hk2 else pwm hp hk2 (pat S b (f + 1)) f) * _ = _
          rw [e2, show pat S b (f + 1) f = sOn2 S f b by unfold pat; rw [if_pos (by omega)]]
        have le1 := pwm_le (hk := hk2) hh (pat S b f) 6
        have le2 := pwm_le (hk := hk2) hh (pat S b (f + 1)) 6
        have hinp : 0 < pl hp hk2 (fun j => sOn2 S j (b + 1)) (5 - f) := by rw [← pls]; exact Nat.pow_pos hb0
        have hinl : pl hp hk2 (fun j => sOn2 S j (b + 1)) (5 - f) ≤ 4096 := by
          rw [← pls]
          exact Nat.le_trans (Nat.pow_le_pow_left hbs _) (show 4 ^ _ ≤ 4 ^ 6 from Nat.pow_le_pow_right (by decide) pcl)
        have houl : pwm hp hk2 (fun j => sOn2 S j b) f ≤ 4096 := Nat.le_trans (pwm_le hh _ f) (show 4 ^ f ≤ 4 ^ 6 from Nat.pow_le_pow_right (by decide) (by omega))
        obtain ⟨outs, eo⟩ : ∃ outs, outs = if sOn2 S f b then bas hp hk2 else 1 := ⟨_, rfl⟩
        obtain ⟨ins, ei⟩ : ∃ ins, ins = if sOn2 S f (b + 1) then bas hp hk2 else 1 := ⟨_, rfl⟩
        have s1 : pwm hp hk2 (pat S b f) 6 = pwm hp hk2 (fun j => sOn2 S j b) f * ins * pl hp hk2 (fun j => sOn2 S j (b + 1)) (5 - f) := by
          rw [hpl6, ei]
          cases sOn2 S f (b + 1)
          · show _ = _ * 1 * _; rw [Nat.mul_one]; rfl
          · rfl
        have s2 : pwm hp hk2 (pat S b (f + 1)) 6 = pwm hp hk2 (fun j => sOn2 S j b) f * outs * pl hp hk2 (fun j => sOn2 S j (b + 1)) (5 - f) := by
          rw [hpl6b, eo]
          cases sOn2 S f b
          · show _ = _ * 1 * _; rw [Nat.mul_one]; rfl
          · rfl
        have hout : outs ≤ 4 ∧ 0 < outs := by rw [eo]; split <;> omega
        have hins : ins ≤ 4 ∧ 0 < ins := by rw [ei]; split <;> omega
        have hmul : pwm hp hk2 (fun j => sOn2 S j b) (f + 1) = pwm hp hk2 (fun j => sOn2 S j b) f * outs := by
          rw [hpw, eo]
          cases sOn2 S f b
          · exact (Nat.mul_one _).symm
          · rfl
        -- the call
        have go : ∀ row : Int32, ((row = -1 ∧ (sOn2 S f b && sOn2 S f (b + 1)) = false) ∨ (row = nI ((f * 12 + (b + 1)) * 16 + 0 * 4 + 0) ∧ (sOn2 S f b && sOn2 S f (b + 1)) = true)) → ∀ v5 v6, a_wp aTab aMX (d + 2) m_Planner_carryBack 140 [.ref 44, .int (nI b), .int (nI (pwm hp hk2 (fun j => sOn2 S j b) f)), .int (nI f), .int (bi (sOn2 S f b)), v5, v6, .int row] [.int (nI ins), .int (nI outs), .int (nI (pl hp hk2 (fun j => sOn2 S j (b + 1)) (5 - f))), .int (nI (pwm hp hk2 (fun j => sOn2 S j b) f)), .ref 44] (g, I2, J2) Q := by
          intro row hrow v5 v6
          rw [b_Planner_carryBack_140 hg]
          refine c_mix (V := fun o i y => bkS S LF b M f (cdm hp hk2 (pat S b f) 6 ((o * ins + y) * pl hp hk2 (fun j => sOn2 S j (b + 1)) (5 - f) + i))) (ct := fun x y => if sOn2 S f b && sOn2 S f (b + 1) then psv S LF f b (hO hp x) (hO hp y) else 0) hg hP hw g2 hins.2 hins.1 hout.1 hinp hout.2 (by rw [← s2]; exact le2) (by rw [← s1]; exact le1) (show n + 9 * f ≤ 10000 by omega) ?_ ?_ ?_ ?_
          · rcases hrow with ⟨r1, r2⟩ | ⟨r1, r2⟩
            · left
              refine ⟨r1, fun x y => ?_⟩
              rw [r2]; rfl
            · right
              refine ⟨(f * 12 + (b + 1)) * 16 + 0 * 4 + 0, ?_, r1, ?_⟩
              · have hb11 : b + 1 < 12 := by
                  rw [Bool.and_eq_true] at r2
                  have := r2.2
                  unfold sOn2 at this
                  rw [Bool.and_eq_true, decide_eq_true_iff] at this
                  exact this.1
                omega
              · intro x y hx hy
                have hb11 : b + 1 < 12 := by
                  rw [Bool.and_eq_true] at r2
                  have := r2.2
                  unfold sOn2 at this
                  rw [Bool.and_eq_true, decide_eq_true_iff] at this
                  exact this.1
                rw [Bool.and_eq_true] at r2
                have eo2 : outs = bas hp hk2 := by rw [eo, r2.1]; rfl
                have ei2 : ins = bas hp hk2 := by rw [ei, r2.2]; rfl
                have := hC f (b + 1) (x * 4 + y) hf hb11 (by omega)
                rw [X13_r g1 (by decide), show (f * 12 + (b + 1)) * 16 + 0 * 4 + 0 + x * 4 + y = (f * 12 + (b + 1)) * 16 + (x * 4 + y) by omega, this, if_pos (by omega)]
                unfold tg
                rw [ehp, ehk, show (x * 4 + y) / 4 = x by omega, show (x * 4 + y) % 4 = y by omega, if_pos ⟨by omega, by omega, by omega⟩, Nat.add_sub_cancel, r2.1, r2.2]
                rfl
          · intro x y
            show (if _ then _ else 0) ≤ 9
            split
            · exact psv_le _ _ _ _ _ _
            · omega
          · intro o y i ho hy hi
            have hlt : (o * ins + y) * pl hp hk2 (fun j => sOn2 S j (b + 1)) (5 - f) + i < pwm hp hk2 (pat S b f) 6 := by
              rw [s1]
              have h3 : (o + 1) * ins ≤ pwm hp hk2 (fun j => sOn2 S j b) f * ins := Nat.mul_le_mul_right _ ho
              rw [Nat.add_mul, Nat.one_mul] at h3
              have h4 : (o * ins + y + 1) * pl hp hk2 (fun j => sOn2 S j (b + 1)) (5 - f) ≤ pwm hp hk2 (fun j => sOn2 S j b) f * ins * pl hp hk2 (fun j => sOn2 S j (b + 1)) (5 - f) := Nat.mul_le_mul_right _ (by omega)
              rw [Nat.add_mul, Nat.one_mul] at h4
              omega
            obtain ⟨c1, c2, c3⟩ := cdm_ok (hk := hk2) hh (pat S b f) 6 _ hlt
            have hE := g4 _ c1 c2
            rw [c3] at hE
            have hFc := hFf _ c1
            exact ⟨hE, hFc.2, fun z => by omega⟩
          · intro J3 r1 r2
            refine ⟨rfl, ?_⟩
            have hAR := mix_step (S := S) (LF := LF) (n := n + 9 * f + 9) (b := b) (A := J2 0) (A2 := J3 (B + 14 + (1 - nw))) (ct := fun x y => if sOn2 S f b && sOn2 S f (b + 1) then psv S LF f b (hO hp x) (hO hp y) else 0) hh hf hFf (by omega) hIf eo ei (fun x y _ _ => rfl) r2
            have f3 : Fr [B + 14, B + 15] J J3 := by
              intro a ha
              rw [r1 a (fun z => ha (by simp at z ⊢; omega))]
              exact g3 a ha
            rw [hmul] at ih
            have fin := ih (1 - nw) (u2 I2 44 13 (nI (1 - nw))) J3 (by omega) (X13_u g1) u2_s f3 hAR
            have x14b : u2 I2 44 13 (nI (1 - nw)) 44 14 = nI (bas hp hk2) := by rw [u2_k (by decide)]; exact x14
            rw [b_Planner_carryBack_145 hg, g2, nsub (by omega)]
            cases q1 : sOn2 S f b
            · have eo1 : outs = 1 := by rw [eo, q1]; rfl
              rw [eo1] at fin
              simp (disch := omega) only [b_Planner_carryBack_168, b_Planner_carryBack_169, b_Planner_carryBack_171, ↓reduceIte, nadd, nmul, nsub, nlt, neq, ncl, nvi, ndiv, nrem, exI, exJ, exV, eq_self, true_and, and_true, true_or, or_true, if_true, if_false, not_true, not_false_eq_true, false_and, and_false, decide_true, decide_false, bi_T, bi_F, bi_0, bi_1, bi_z, bft, n10, n01, Nat.reduceEqDiff, Nat.reduceLT, Nat.reduceAdd, Nat.reduceMul, reduceCtorEq]
              exact fin _ _ _ _
            · have eo1 : outs = bas hp hk2 := by rw [eo, q1]; rfl
              rw [eo1] at fin
              simp (disch := omega) only [b_Planner_carryBack_161 hg, b_Planner_carryBack_169, b_Planner_carryBack_171, ↓reduceIte, nadd, nmul, nsub, nlt, neq, ncl, nvi, ndiv, nrem, exI, exJ, exV, eq_self, true_and, and_true, true_or, or_true, if_true, if_false, not_true, not_false_eq_true, false_and, and_false, decide_true, decide_false, bi_T, bi_F, bi_0, bi_1, bi_z, bft, n10, n01, Nat.reduceEqDiff, Nat.reduceLT, Nat.reduceAdd, Nat.reduceMul, reduceCtorEq, x14b]
              exact fin _ _ _ _
        have esh : nI (o2 S (b + 1)) >>> (nI (f + 1) &&& 31) = nI (o2 S (b + 1) >>> (f + 1)) := nshr (by omega) (by omega)
        rw [b_Planner_carryBack_4]
        cases q1 : sOn2 S f b <;> cases q2 : sOn2 S f (b + 1)
        · exact absurd ⟨q1, q2⟩ q
        · have go := go (-1) (Or.inl ⟨rfl, by rw [q1]; rfl⟩)
          rw [q1] at go eo
          rw [q2] at ei
          have eo : outs = 1 := eo
          have ei : ins = bas hp hk2 := ei
          rw [eo, ei] at go
          simp (disch := first | omega | exact pcl) only [b_Planner_carryBack_10 hg, b_Planner_carryBack_28, b_Planner_carryBack_29 hg, b_Planner_carryBack_47, b_Planner_carryBack_52, b_Planner_carryBack_59, b_Planner_carryBack_67 hg, b_Planner_carryBack_83, b_Planner_carryBack_107, b_Planner_carryBack_108, b_Planner_carryBack_126, b_Planner_carryBack_127, b_Planner_carryBack_132 hg, ↓reduceIte, nadd, nmul, nsub, nlt, neq, ncl, nvi, ndiv, nrem, exI, exJ, exV, eq_self, true_and, and_true, true_or, or_true, if_true, if_false, not_true, not_false_eq_true, false_and, and_false, decide_true, decide_false, bi_T, bi_F, bi_0, bi_1, bi_z, bft, n10, n01, Nat.reduceEqDiff, Nat.reduceLT, Nat.reduceAdd, Nat.reduceMul, reduceCtorEq, hf, x0, x1, bt_sh, bt_nI, bt0, bt1, q1, q2, esh, c_sizeOf hg x14 hbs, pls, x14]
          exact go _ _
        · have go := go (-1) (Or.inl ⟨rfl, by rw [q2, Bool.and_false]⟩)
          rw [q1] at go eo
          rw [q2] at ei
          have eo : outs = bas hp hk2 := eo
          have ei : ins = 1 := ei
          rw [eo, ei] at go
          simp (disch := first | omega | exact pcl) only [b_Planner_carryBack_10 hg, b_Planner_carryBack_24, b_Planner_carryBack_29 hg, b_Planner_carryBack_51, b_Planner_carryBack_52, b_Planner_carryBack_67 hg, b_Planner_carryBack_83, b_Planner_carryBack_90, b_Planner_carryBack_107, b_Planner_carryBack_108, b_Planner_carryBack_119 hg, b_Planner_carryBack_127, b_Planner_carryBack_139, ↓reduceIte, nadd, nmul, nsub, nlt, neq, ncl, nvi, ndiv, nrem, exI, exJ, exV, eq_self, true_and, and_true, true_or, or_true, if_true, if_false, not_true, not_false_eq_true, false_and, and_false, decide_true, decide_false, bi_T, bi_F, bi_0, bi_1, bi_z, bft, n10, n01, Nat.reduceEqDiff, Nat.reduceLT, Nat.reduceAdd, Nat.reduceMul, reduceCtorEq, hf, x0, x1, bt_sh, bt_nI, bt0, bt1, q1, q2, esh, c_sizeOf hg x14 hbs, pls, x14]
          exact go _ _
        · have go := go _ (Or.inr ⟨rfl, by rw [q1, q2]; rfl⟩)
          rw [q1] at go eo
          rw [q2] at ei
          have eo : outs = bas hp hk2 := eo
          have ei : ins = bas hp hk2 := ei
          rw [eo, ei] at go
          simp (disch := first | omega | exact pcl) only [b_Planner_carryBack_10 hg, b_Planner_carryBack_24, b_Planner_carryBack_29 hg, b_Planner_carryBack_47, b_Planner_carryBack_52, b_Planner_carryBack_67 hg, b_Planner_carryBack_83, b_Planner_carryBack_90, b_Planner_carryBack_95, b_Planner_carryBack_104, b_Planner_carryBack_108, b_Planner_carryBack_119 hg, b_Planner_carryBack_127, b_Planner_carryBack_132 hg, ↓reduceIte, nadd, nmul, nsub, nlt, neq, ncl, nvi, ndiv, nrem, exI, exJ, exV, eq_self, true_and, and_true, true_or, or_true, if_true, if_false, not_true, not_false_eq_true, false_and, and_false, decide_true, decide_false, bi_T, bi_F, bi_0, bi_1, bi_z, bft, n10, n01, Nat.reduceEqDiff, Nat.reduceLT, Nat.reduceAdd, Nat.reduceMul, reduceCtorEq, hf, x0, x1, bt_sh, bt_nI, bt0, bt1, q1, q2, esh, c_sizeOf hg x14 hbs, pls, x14, c_costAt]
          exact go _ _
  refine key 0 (by omega) nw I J hw X13_rf h13 Fr_rf ?_ _ _ _ _
  intro c hc hv
  have e1 : vdm hp hk2 (pat S b 0) 6 c = vdm hp hk2 (fun j => sOn2 S j (b + 1)) 6 c := by
    rw [Bool.eq_iff_iff, vd_iff, vd_iff]
    constructor
    · intro h j hj; have := h j hj; rw [pat0 j] at this; exact this
    · intro h j hj; rw [pat0 j]; exact h j hj
  have e2 : ixm hp hk2 (pat S b 0) 6 c = ixm hp hk2 (fun j => sOn2 S j (b + 1)) 6 c := ixm_cong 6 c (fun j _ => pat0 j)
  rw [e2]
  exact hA c hc (by rw [← e1]; exact hv)
end CB
