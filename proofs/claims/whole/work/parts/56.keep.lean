/-! ===== the Planner: keepHoldings, sumUp ===== -/
def kpD (S : Nat → Nat → Nat) (LF : aLF) (b : Nat) (M : aM) : aM := fun c => if isB S LF b c then M c else (1000000, 0)
def BR (S : Nat → Nat → Nat) (b : Nat) (A : Nat → Int32) (D : aM) : Prop := ∀ c, c < 4096 → vdm (S 10 2) (S 10 4) (fun j => sOn2 S j b) 6 c = true → ((D c).1 < 1000000 → A (ixm (S 10 2) (S 10 4) (fun j => sOn2 S j b) 6 c) = nI (D c).1) ∧ ((D c).1 = 1000000 → ∃ x, 1048576 ≤ x ∧ x < 2097152 ∧ A (ixm (S 10 2) (S 10 4) (fun j => sOn2 S j b) 6 c) = nI x)
theorem sh32i {n : Nat} (h : n < 4611686018427387904) : (lN n >>> ((nI 32).toInt64 &&& 63)).toInt32 = nI (n / 4294967296) := by rw [sh32 h, lN_i]
section KH
variable {d : Nat} {g : aG} {I : Nat → Nat → Int32} {J : Nat → Nat → Int64} {Q : aQ} {S : Nat → Nat → Nat} {LF : aLF}
theorem c_keepHoldings {B nw b n : Nat} {M : aM} {k : Nat} (hg : Geo g) (hS : CS S I) (hP : PG g B) (hw : nw < 2) (hb : b < 12) (hH : HB S LF I J b) (h13 : I 44 13 = nI nw) (h14 : I 44 14 = nI (bas (S 10 2) (S 10 4))) (h46 : I 46 b = nI (o2 S b)) (hn : n ≤ 10000) (hF : FB k M) (hA : AR n (S 10 2) (S 10 4) (fun j => sOn2 S j b) (J (B + 14 + nw)) M)
    (hQ : ∀ I' J', (∀ a, a ≠ B + 1 + b → a ≠ 48 → a ≠ 44 → I' a = I a) → (∀ k, k ≠ 13 → I' 44 k = I 44 k) → I' 44 13 = nI (1 - nw) → (∀ a, a ≠ B + 14 + (1 - nw) → J' a = J a) → AR n (S 10 2) (S 10 4) (fun j => sOn2 S j b) (J' (B + 14 + (1 - nw))) (kpD S LF b M) → BR S b (I' (B + 1 + b)) (kpD S LF b M) → Q none (g, I', J')) : a_call aTab aMX (d + 9) m_Planner_keepHoldings [.ref 44, .int (nI b)] (g, I, J) Q := by
  have hB := hS.2
  have ht := sb10 hB
  have hh : S 10 2 ≤ 3 := ht.2.2.2.1
  have hbs : bas (S 10 2) (S 10 4) ≤ 4 := by unfold bas; split <;> omega
  have a0 := PG_w hP hw
  have a1 := PG_w hP (show 1 - nw < 2 by omega)
  have ab := PG_b hP hb
  have k7 : gK g (gR g 44 7) = 18 := by rw [hP.2.2.1]; exact hP.2.2.2.2.2.2.1
  have n7 : gN g (gR g 44 7) = 2 := by rw [hP.2.2.1]; exact hP.2.2.2.2.2.2.2.1
  have k6 : gK g (gR g 44 6) = 17 := by rw [hP.2.1]; exact hP.2.2.2.1
  have n6 : gN g (gR g 44 6) = 12 := by rw [hP.2.1]; exact hP.2.2.2.2.1
  have hB1 := hP.1
  obtain ⟨pws, pcl⟩ := o2_pw (S := S) (hp := S 10 2) (hk := S 10 4) (b := b)
  have hsz : pwm (S 10 2) (S 10 4) (fun j => sOn2 S j b) 6 ≤ 4096 := pwm_le hh _ 6
  have eo := o2_ons hB hb
  rw [e_Planner_keepHoldings]
  simp (disch := first | omega | exact pcl) only [b_Planner_keepHoldings_0 hg, b_Planner_keepHoldings_10 hg, ↓reduceIte, nadd, nmul, nsub, nlt, neq, ncl, nvi, ndiv, nrem, exI, exJ, exV, eq_self, true_and, and_true, true_or, or_true, if_true, if_false, not_true, not_false_eq_true, false_and, and_false, decide_true, decide_false, bi_T, bi_F, bi_0, bi_1, bi_z, bft, n10, n01, Nat.reduceEqDiff, Nat.reduceLT, Nat.reduceAdd, Nat.reduceMul, reduceCtorEq, h46, c_sizeOf hg h14 hbs, pws, h13, k7, n7, a1.1]
  rw [c_fillLr a1.2.1 a1.2.2 (by decide) (by omega) hsz]
  simp (disch := omega) only [b_Planner_keepHoldings_30 hg, ↓reduceIte, nadd, nmul, nsub, nlt, neq, ncl, nvi, ndiv, nrem, exI, exJ, exV, eq_self, true_and, and_true, true_or, or_true, if_true, if_false, not_true, not_false_eq_true, false_and, and_false, decide_true, decide_false, bi_T, bi_F, bi_0, bi_1, bi_z, bft, n10, n01, Nat.reduceEqDiff, Nat.reduceLT, Nat.reduceAdd, Nat.reduceMul, reduceCtorEq, k6, n6, ab.1]
  rw [c_fillIr ab.2.1 ab.2.2 (by decide) (by omega) hsz]
  simp only [exV, true_and]
  rw [b_Planner_keepHoldings_43 hg, c_fillI (k_48 hg) (n_48 hg) (by decide)]
  simp only [exV, true_and]
  rw [b_Planner_keepHoldings_51 hg]
  generalize hI2 : fl2 (fl2 I (B + 1 + b) 0 (pwm (S 10 2) (S 10 4) (fun j => sOn2 S j b) 6) (nI 1048576)) 48 0 4 (nI 0) = I2
  generalize hJ2 : fl2 J (B + 14 + (1 - nw)) 0 (pwm (S 10 2) (S 10 4) (fun j => sOn2 S j b) 6) (lN 4503599627370496) = J2
  have fi : ∀ a, a ≠ B + 1 + b → a ≠ 48 → I2 a = I a := fun a h1 h2 => by rw [← hI2, fl2_r h2, fl2_r h1]
  have fj : ∀ a, a ≠ B + 14 + (1 - nw) → J2 a = J a := fun a h1 => by rw [← hJ2, fl2_r h1]
  refine c_give (d := d) (S := S) (LF := LF) hg hB hP hw hb 6 0 (by omega) 0 I2 J2 _ (by decide) rfl ?_ ?_ ?_ ?_ ?_ ?_ ?_ ?_
  · intro h _
    have : hset (sOns S b) 0 0 h = 0 := rfl
    rw [this]
    exact canS_0
  · exact ⟨fun a k h1 h2 => by rw [fi a (by omega) (by omega)]; exact hS.1 a k h1 h2, hB⟩
  · exact HB_c (fi 38 (by omega) (by omega)) (fj 37 (by omega)) hH
  · rw [fi 44 (by omega) (by omega)]; exact h13
  · rw [fi 44 (by omega) (by omega)]; exact h14
  · rw [fi 46 (by omega) (by omega), ← eo]; exact h46
  · intro h hh4
    have : hset (sOns S b) 0 0 h = 0 := rfl
    rw [this, ← hI2, fl2_in (by omega) hh4]
  · intro I3 J3 hG
    refine ⟨rfl, ?_⟩
    have e13 : I3 44 13 = nI nw := by rw [hG.1 44 (by omega), fi 44 (by omega) (by omega)]; exact h13
    rw [b_Planner_keepHoldings_58 hg, e13, nsub (by omega)]
    have exC : ∀ c, c < 4096 → c / 4 ^ (6 - 0) = 0 := fun c hc => Nat.div_eq_of_lt hc
    have eF : J2 (B + 14 + nw) = J (B + 14 + nw) := fj _ (by omega)
    -- what stands at a number
    have at_c : ∀ c, c < 4096 → vdm (S 10 2) (S 10 4) (fun j => sOn2 S j b) 6 c = true → (isB S LF b c = true → J3 (B + 14 + (1 - nw)) (ixm (S 10 2) (S 10 4) (fun j => sOn2 S j b) 6 c) = J (B + 14 + nw) (ixm (S 10 2) (S 10 4) (fun j => sOn2 S j b) 6 c) ∧ I3 (B + 1 + b) (ixm (S 10 2) (S 10 4) (fun j => sOn2 S j b) 6 c) = ((J (B + 14 + nw) (ixm (S 10 2) (S 10 4) (fun j => sOn2 S j b) 6 c)) >>> ((nI 32).toInt64 &&& 63)).toInt32) ∧ (isB S LF b c = false → J3 (B + 14 + (1 - nw)) (ixm (S 10 2) (S 10 4) (fun j => sOn2 S j b) 6 c) = lN 4503599627370496 ∧ I3 (B + 1 + b) (ixm (S 10 2) (S 10 4) (fun j => sOn2 S j b) 6 c) = nI 1048576) := by
      intro c hc hv
      have hix := ixm_lt _ 6 c hv
      refine ⟨fun hi => ?_, fun hi => ?_⟩
      · have := hG.2.2.1 c ⟨hc, exC c hc, hv, (isB_fz hB hb hv).1 hi⟩
        rw [eF] at this
        exact this
      · have := hG.2.2.2 (ixm (S 10 2) (S 10 4) (fun j => sOn2 S j b) 6 c) (fun c2 h2 e => by
          have : c = c2 := ixm_inj hh _ (show c < 4 ^ 6 from hc) (show c2 < 4 ^ 6 from h2.1) hv h2.2.2.1 e
          rw [this, (isB_fz hB hb h2.2.2.1).2 h2.2.2.2] at hi
          cases hi)
        rw [this.1, this.2, ← hJ2, ← hI2, fl2_in (by omega) hix, fl2_r (by omega), fl2_in (by omega) hix]
        exact ⟨rfl, rfl⟩
    apply hQ
    · intro a h1 h2 h3
      rw [u2_r h3, hG.1 a h1]
      exact fi a h1 h2
    · intro k hk
      rw [u2_k hk, hG.1 44 (by omega), fi 44 (by omega) (by omega)]
    · exact u2_s
    · intro a h1
      rw [hG.2.1 a h1]
      exact fj a h1
    · intro c hc hv
      have h := at_c c hc hv
      unfold kpD
      cases qb : isB S LF b c
      · rw [(h.2 qb).1, if_neg (by decide)]
        exact Or.inr ⟨rfl, 0, by omega, by rw [show (1048576 + 0) * 4294967296 + 0 = 4503599627370496 by omega]⟩
      · rw [(h.1 qb).1, if_pos rfl]
        exact hA c hc hv
    · intro c hc hv
      have h := at_c c hc hv
      rw [u2_r (show B + 1 + b ≠ 44 by omega)]
      unfold kpD
      cases qb : isB S LF b c
      · rw [(h.2 qb).2, if_neg (by decide)]
        refine ⟨fun z => absurd z (by show ¬ 1000000 < 1000000; omega), fun _ => ⟨1048576, by omega, by omega, rfl⟩⟩
      · rw [(h.1 qb).2, if_pos rfl]
        have hFc := (hF c hc).2
        rcases hA c hc hv with ⟨z1, z2⟩ | ⟨z1, e, z2, z3⟩
        · rw [z2, sh32i (by omega), (fin32 (a := (M c).1) (u := (M c).2) (by omega)).1]
          exact ⟨fun _ => rfl, fun z => by omega⟩
        · rw [z3, sh32i (by omega), (fin32 (a := 1048576 + e) (u := 0) (by omega)).1]
          exact ⟨fun z => by omega, fun _ => ⟨1048576 + e, by omega, by omega, rfl⟩⟩
/-! the sum over all numbers is the sum over all codes -/
theorem lsF_s {D : aM} {k : Nat} (h : (lsF D k).1 ≤ 1000000) (h2 : (D k).1 ≤ 1000000) : lsF D (k + 1) = stp (lsF D k) (D k).1 (D k).2 := by
  have e : lsF D (k + 1) = ((if (D k).1 < (lsF D k).1 then (D k).1 else (lsF D k).1), (if (D k).1 < (lsF D k).1 then 0 else (lsF D k).2) + (if (D k).1 = (if (D k).1 < (lsF D k).1 then (D k).1 else (lsF D k).1) ∧ (if (D k).1 < (lsF D k).1 then (D k).1 else (lsF D k).1) < 1000000 then (D k).2 else 0)) := by simp only [lsF]
  rw [e]
  generalize lsF D k = m at *
  generalize D k = x at *
  unfold stp
  by_cases q : x.1 < m.1
  · simp only [q, if_true]
    rw [if_pos (show True ∧ x.1 < 1000000 from ⟨trivial, by omega⟩), if_pos (by omega)]
  · simp only [q, if_false]
    by_cases q2 : x.1 = m.1
    · by_cases q3 : m.1 < 1000000
      · rw [if_pos ⟨q2, q3⟩, if_pos (by omega), q2]
      · rw [if_neg (fun z => q3 z.2), if_neg (by omega), Nat.add_zero]
    · rw [if_neg (fun z => q2 z.1), if_neg (by omega), Nat.add_zero]
def fsN (F : Nat → Nat × Nat) : Nat → Nat × Nat
  | 0 => (1000000, 0)
  | n + 1 => stp (fsN F n) (F n).1 (F n).2
theorem ix_ct {hp hk : Nat} (hh : hp ≤ 3) (p : Nat → Bool) {c : Nat} (hc : c < 4096) (hv : vdm hp hk p 6 c = true) : ixm hp hk p 6 c = fb_ct (vdm hp hk p 6) c := by
  have h := sm_cdm (hk := hk) hh p 6 (fun x => if x < c then 1 else 0)
  have hix := ixm_lt p 6 c hv
  have e1 : fb_sm (fun n => if cdm hp hk p 6 n < c then 1 else 0) (pwm hp hk p 6) = ixm hp hk p 6 c := by
    have e2 : fb_sm (fun n => if cdm hp hk p 6 n < c then 1 else 0) (pwm hp hk p 6) = fb_sm (fun n => if n < ixm hp hk p 6 c then 1 else 0) (pwm hp hk p 6) := by
      apply fb_sm_cong
      intro n hn
      obtain ⟨o1, o2, o3⟩ := cdm_ok (hk := hk) hh p 6 n hn
      by_cases q : n < ixm hp hk p 6 c
      · rw [if_pos q, if_pos]
        apply Classical.byContradiction
        intro z
        by_cases z2 : cdm hp hk p 6 n = c
        · rw [z2] at o3; omega
        · have := ixm_mono hh p 6 c (cdm hp hk p 6 n) (show c < 4 ^ 6 from hc) o1 hv o2 (by omega)
          omega
      · rw [if_neg q, if_neg]
        intro z
        have := ixm_mono hh p 6 (cdm hp hk p 6 n) c o1 (show c < 4 ^ 6 from hc) o2 hv z
        omega
    rw [e2]
    have : ∀ a n, a ≤ n → fb_sm (fun k => if k < a then 1 else 0) n = a := by
      intro a n
      induction n with
      | zero => intro h; show 0 = a; omega
      | succ n ih =>
        intro h
        rw [fb_sm_succ]
        by_cases q : a ≤ n
        · rw [ih q, if_neg (by omega), Nat.add_zero]
        · have ea : a = n + 1 := by omega
          rw [if_pos (by omega), ea]
          congr 1
          have : fb_sm (fun k => if k < n + 1 then 1 else 0) n = fb_sm (fun _ => 1) n := fb_sm_cong (fun k hk => if_pos (by omega))
          rw [this, fb_sm_const, Nat.mul_one]
    exact this _ _ (by omega)
  rw [e1] at h
  rw [h, ct_sm]
  have e3 := sm_more (f := fun x => if vdm hp hk p 6 x then (if x < c then 1 else 0) else 0) (a := c) (4096 - c) (fun i h1 h2 => by rw [if_neg (show ¬ i < c by omega), ite_self])
  rw [show c + (4096 - c) = 4096 by omega] at e3
  rw [show 4 ^ 6 = 4096 by decide, e3]
  apply fb_sm_cong
  intro k hk2
  rw [if_pos hk2]
  cases vdm hp hk p 6 k <;> rfl
theorem ls_fs {hp hk : Nat} (hh : hp ≤ 3) (p : Nat → Bool) {D : aM} {n : Nat} (hD : FB n D) (hn : n ≤ 900000) (hz : ∀ c, c < 4096 → vdm hp hk p 6 c = false → (D c).1 = 1000000) : ∀ k, k ≤ 4096 → lsF D k = fsN (fun x => D (cdm hp hk p 6 x)) (fb_ct (vdm hp hk p 6) k)
  | 0, _ => rfl
  | k + 1, hkk => by
    have h1 : (lsF D k).1 ≤ 1000000 := by
      rcases (lsF_b hD k (by omega)).1 with z | ⟨z, -⟩
      · omega
      · omega
    have h2 := (hD k (by omega)).1
    rw [lsF_s h1 (by omega), ls_fs hh p hD hn hz k (by omega), fb_ct_succ]
    cases q : vdm hp hk p 6 k
    · rw [hz k (by omega) q, stp_far]
      rfl
    · have e := ix_ct hh p (show k < 4096 by omega) q
      show _ = stp (fsN (fun x => D (cdm hp hk p 6 x)) (fb_ct (vdm hp hk p 6) k)) (D (cdm hp hk p 6 (fb_ct (vdm hp hk p 6) k))).1 (D (cdm hp hk p 6 (fb_ct (vdm hp hk p 6) k))).2
      rw [← e, cdm_ixm hh p 6 k (show k < 4 ^ 6 by omega) q]
theorem ct_pw {hp hk : Nat} (hh : hp ≤ 3) (p : Nat → Bool) : fb_ct (vdm hp hk p 6) 4096 = pwm hp hk p 6 := by
  have h := sm_cdm (hk := hk) hh p 6 (fun _ => 1)
  rw [fb_sm_const, Nat.mul_one] at h
  rw [h, ct_sm]
  apply fb_sm_cong
  intro k _
  cases vdm hp hk p 6 k <;> rfl
theorem c_sumUp {B nw n k : Nat} {D : aM} (hg : Geo g) (hB : SB S) (hP : PG g B) (hw : nw < 2) (h13 : I 44 13 = nI nw) (h14 : I 44 14 = nI (bas (S 10 2) (S 10 4))) (h46 : I 46 0 = nI (o2 S 0)) (hn : n ≤ 10000) (hF : FB k D) (hk9 : k ≤ 900000) (hz : ∀ c, c < 4096 → vdm (S 10 2) (S 10 4) (fun j => sOn2 S j 0) 6 c = false → (D c).1 = 1000000) (hA : AR n (S 10 2) (S 10 4) (fun j => sOn2 S j 0) (J (B + 14 + nw)) D)
    (hQ : ∀ I', (∀ a k, ¬ (a = 44 ∧ (k = 8 ∨ k = 1 ∨ k = 2)) → I' a k = I a k) → I' 44 8 = bi (decide ((lsF D 4096).1 < 1000000)) → ((lsF D 4096).1 < 1000000 → I' 44 1 = nI (lsF D 4096).1 ∧ I' 44 2 = nI (min 1000000000 (lsF D 4096).2)) → Q none (g, I', J)) : a_call aTab aMX (d + 3) m_Planner_sumUp [.ref 44] (g, I, J) Q := by
  have ht := sb10 hB
  have hh : S 10 2 ≤ 3 := ht.2.2.2.1
  have hbs : bas (S 10 2) (S 10 4) ≤ 4 := by unfold bas; split <;> omega
  have a0 := PG_w hP hw
  have k7 : gK g (gR g 44 7) = 18 := by rw [hP.2.2.1]; exact hP.2.2.2.2.2.2.1
  have n7 : gN g (gR g 44 7) = 2 := by rw [hP.2.2.1]; exact hP.2.2.2.2.2.2.2.1
  obtain ⟨pws, pcl⟩ := o2_pw (S := S) (hp := S 10 2) (hk := S 10 4) (b := 0)
  have hsz : pwm (S 10 2) (S 10 4) (fun j => sOn2 S j 0) 6 ≤ 4096 := pwm_le hh _ 6
  have el : lsF D 4096 = fsN (fun x => D (cdm (S 10 2) (S 10 4) (fun j => sOn2 S j 0) 6 x)) (pwm (S 10 2) (S 10 4) (fun j => sOn2 S j 0) 6) := by
    rw [ls_fs hh _ hF hk9 hz 4096 (Nat.le_refl _), ct_pw hh]
  have lb := lsF_b hF 4096 (Nat.le_refl _)
  rw [e_Planner_sumUp]
  simp (disch := first | omega | exact pcl) only [b_Planner_sumUp_0 hg, b_Planner_sumUp_14, ↓reduceIte, nadd, nmul, nsub, nlt, neq, ncl, nvi, ndiv, nrem, exI, exJ, exV, eq_self, true_and, and_true, true_or, or_true, if_true, if_false, not_true, not_false_eq_true, false_and, and_false, decide_true, decide_false, bi_T, bi_F, bi_0, bi_1, bi_z, bft, n10, n01, Nat.reduceEqDiff, Nat.reduceLT, Nat.reduceAdd, Nat.reduceMul, reduceCtorEq, h46, c_sizeOf hg h14 hbs, pws]
  have key : ∀ x, x ≤ pwm (S 10 2) (S 10 4) (fun j => sOn2 S j 0) 6 → ∀ y : Int64, ER n y ((fsN (fun x => D (cdm (S 10 2) (S 10 4) (fun j => sOn2 S j 0) 6 x)) x).1, min 1000000000 (fsN (fun x => D (cdm (S 10 2) (S 10 4) (fun j => sOn2 S j 0) 6 x)) x).2) → a_wp aTab aMX (d + 2) m_Planner_sumUp 18 [.ref 44, .long y, aU, .int (nI (pwm (S 10 2) (S 10 4) (fun j => sOn2 S j 0) 6)), .int (nI x)] [] (g, I, J) Q := by
    refine dn ?_ ?_
    · intro y hy
      rw [← el] at hy
      simp (disch := omega) only [b_Planner_sumUp_18, ↓reduceIte, nadd, nmul, nsub, nlt, neq, ncl, nvi, ndiv, nrem, exI, exJ, exV, eq_self, true_and, and_true, true_or, or_true, if_true, if_false, not_true, not_false_eq_true, false_and, and_false, decide_true, decide_false, bi_T, bi_F, bi_0, bi_1, bi_z, bft, n10, n01, Nat.reduceEqDiff, Nat.reduceLT, Nat.reduceAdd, Nat.reduceMul, reduceCtorEq, Nat.lt_irrefl]
      generalize lsF D 4096 = m at *
      rcases hy with ⟨z1, z2⟩ | ⟨z1, e, z2, z3⟩
      · have z1 : m.1 < 1000000 := z1
        have z2 : y = lN (m.1 * 4294967296 + min 1000000000 m.2) := z2
        have f1 := fin32 (a := m.1) (u := min 1000000000 m.2) (by omega)
        rw [b_Planner_sumUp_47, z2, if_pos ((pk_lLT (by omega) (by omega)).2 (by omega)), b_Planner_sumUp_56, b_Planner_sumUp_61 hg, sh32i (by omega), an32 (by omega), lN_i, f1.1, f1.2]
        simp (disch := omega) only [↓reduceIte, nadd, nmul, nsub, nlt, neq, ncl, nvi, ndiv, nrem, exI, exJ, exV, eq_self, true_and, and_true, true_or, or_true, if_true, if_false, not_true, not_false_eq_true, false_and, and_false, decide_true, decide_false, bi_T, bi_F, bi_0, bi_1, bi_z, bft, n10, n01, Nat.reduceEqDiff, Nat.reduceLT, Nat.reduceAdd, Nat.reduceMul, reduceCtorEq]
        apply hQ
        · intro a k hak
          rw [show u2 (u2 (u2 I 44 8 (nI 1)) 44 1 (nI m.1)) 44 2 (nI (min 1000000000 m.2)) a k = I a k by
            unfold u2
            rw [if_neg (by omega), if_neg (by omega), if_neg (by omega)]]
        · rw [u2_k (by decide), u2_k (by decide), u2_s, decide_eq_true z1]; rfl
        · intro _
          rw [u2_k (by decide), u2_s, u2_s]
          exact ⟨rfl, rfl⟩
      · have z1 : m.1 = 1000000 := z1
        rw [b_Planner_sumUp_47, z3, if_neg (fun z => by have := (pk_lLT (by omega) (by omega)).1 z; omega), b_Planner_sumUp_60, b_Planner_sumUp_61 hg]
        simp (disch := omega) only [↓reduceIte, nadd, nmul, nsub, nlt, neq, ncl, nvi, ndiv, nrem, exI, exJ, exV, eq_self, true_and, and_true, true_or, or_true, if_true, if_false, not_true, not_false_eq_true, false_and, and_false, decide_true, decide_false, bi_T, bi_F, bi_0, bi_1, bi_z, bft, n10, n01, Nat.reduceEqDiff, Nat.reduceLT, Nat.reduceAdd, Nat.reduceMul, reduceCtorEq]
        apply hQ
        · intro a k hak
          unfold u2
          rw [if_neg (by omega), if_neg (by omega), if_neg (by omega)]
        · rw [u2_k (by decide), u2_k (by decide), u2_s, decide_eq_false (by omega)]; rfl
        · intro z; omega
    · intro x hx ih y hy
      obtain ⟨o1, o2', o3⟩ := cdm_ok (hk := S 10 4) hh (fun j => sOn2 S j 0) 6 x hx
      have hE := hA _ o1 o2'
      rw [o3] at hE
      have hw2 := (hF _ o1).2
      rw [b_Planner_sumUp_18]
      simp (disch := omega) only [b_Planner_sumUp_24 hg, ↓reduceIte, nadd, nmul, nsub, nlt, neq, ncl, nvi, ndiv, nrem, exI, exJ, exV, eq_self, true_and, and_true, true_or, or_true, if_true, if_false, not_true, not_false_eq_true, false_and, and_false, decide_true, decide_false, bi_T, bi_F, bi_0, bi_1, bi_z, bft, n10, n01, Nat.reduceEqDiff, Nat.reduceLT, Nat.reduceAdd, Nat.reduceMul, reduceCtorEq, hx, h13, k7, n7, a0.1, a0.2.1, a0.2.2]
      refine c_eitherR (by omega) hy hE hw2 ?_
      intro z hz2
      refine ⟨_, rfl, ?_⟩
      rw [b_Planner_sumUp_40, nadd]
      exact ih z hz2
  refine key 0 (by omega) _ (Or.inr ⟨rfl, 0, by omega, ?_⟩)
  rw [show (1048576 + 0) * 4294967296 + 0 = 4503599627370496 by omega]
end KH
