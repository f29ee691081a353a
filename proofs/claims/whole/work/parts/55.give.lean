/-! ===== the Planner: the holdings of a beat ===== -/
theorem ct_mono2 {p q : Nat → Bool} {n : Nat} (h : ∀ k, k < n → p k = true → q k = true) : fb_ct p n ≤ fb_ct q n := fb_ct_sub h
theorem canS_anti {S : Nat → Nat → Nat} {LF : aLF} {h b s t : Nat} (hst : s &&& t = s) (hc : canS S LF h b t = true) : canS S LF h b s = true := by
  have hs := sub_bit.1 hst
  unfold canS at *
  rw [Bool.and_eq_true] at *
  refine ⟨?_, ?_⟩
  · rw [aB_iff] at *
    intro k hk
    have h1 := hc.1 k hk
    cases q : s.testBit k
    · rfl
    · rw [hs k q] at h1
      exact h1
  · have h2 := hc.2
    by_cases q3 : h = 3
    · rw [if_pos q3, decide_eq_true_iff] at *
      exact Nat.le_trans (ct_mono2 (fun k _ hk => hs k hk)) h2
    · rw [if_neg q3, Bool.and_eq_true] at *
      refine ⟨?_, ?_⟩
      · have h3 := of_decide_eq_true h2.1
        have m1 : twoS S s ≤ twoS S t := ct_mono2 (fun k _ hk => by
          simp only [Bool.and_eq_true] at hk ⊢
          exact ⟨hs k hk.1, hk.2⟩)
        have m2 : oneS S s ≤ oneS S t := ct_mono2 (fun k _ hk => by
          simp only [Bool.and_eq_true] at hk ⊢
          exact ⟨hs k hk.1, hk.2⟩)
        unfold hsf
        apply decide_eq_true
        by_cases z : twoS S t = 0
        · rw [if_pos z] at h3
          rw [if_pos (show twoS S s = 0 by omega)]
          omega
        · rw [if_neg z] at h3
          by_cases z2 : twoS S s = 0
          · rw [if_pos z2]; omega
          · rw [if_neg z2]; omega
      · have h3 := h2.2
        unfold tog at *
        rw [aB_iff] at *
        intro f hf
        have h4 := h3 f hf
        cases q : s.testBit f
        · rfl
        rw [hs f q] at h4
        have h4 : aB (fun o => !t.testBit o || near S b f o) 6 = true := h4
        show (false || aB _ 6) = true
        rw [Bool.false_or, aB_iff] at *
        intro o ho
        have h5 := h4 o ho
        cases q2 : s.testBit o
        · rfl
        rw [hs o q2] at h5
        exact h5
/-- all four can hold what a number gives them -/
def fz (S : Nat → Nat → Nat) (LF : aLF) (b m c : Nat) : Prop := ∀ h, h < 4 → canS S LF h b (hset (sOns S b) m c h) = true
theorem isB_fz {S : Nat → Nat → Nat} (hB : SB S) {LF : aLF} {b c : Nat} (hb : b < 12) (hv : vdm (S 10 2) (S 10 4) (fun j => sOn2 S j b) 6 c = true) : isB S LF b c = true ↔ fz S LF b 6 c := by
  have hvd := (vd_iff _ c).1 hv
  have e1 : okz (sOns S b) 6 c = true := decide_eq_true (fun f hf h0 => by
    have := hvd f hf
    rw [ons_bit hB hf] at h0
    rw [show sOn2 S f b = false by rw [sOn2_lt hb]; exact h0] at this
    exact of_decide_eq_true this)
  have e2 : vld (S 10 2) (sOns S b) 6 c = true := decide_eq_true (fun f hf h0 => by
    have := hvd f hf
    have h1 := h0.1
    rw [ons_bit hB hf] at h1
    rw [show sOn2 S f b = true by rw [sOn2_lt hb]; exact h1] at this
    have := vh_iff.1 this
    omega)
  unfold isB isH
  rw [e1, e2, Bool.true_and, Bool.true_and, Bool.and_eq_true, Bool.and_eq_true, Bool.and_eq_true]
  constructor
  · rintro ⟨h0, h1, h2, h3⟩ h hh
    have : h = 0 ∨ h = 1 ∨ h = 2 ∨ h = 3 := by omega
    rcases this with rfl | rfl | rfl | rfl
    · exact h0
    · exact h1
    · exact h2
    · exact h3
  · intro h
    exact ⟨h 0 (by decide), h 1 (by decide), h 2 (by decide), h 3 (by decide)⟩
/-- the sets of a number's beginning lie in its own -/
theorem hset_pre {s c h : Nat} : ∀ j, j ≤ 6 → hset s (6 - j) (c / 4 ^ j) h &&& hset s 6 c h = hset s (6 - j) (c / 4 ^ j) h
  | 0, _ => by rw [Nat.pow_zero, Nat.div_one]; exact Nat.and_self _
  | j + 1, hj => by
    refine sub_tr ?_ (hset_pre j (by omega))
    have e1 : c / 4 ^ j = 4 * (c / 4 ^ (j + 1)) + c / 4 ^ j % 4 := by
      rw [Nat.pow_succ, ← Nat.div_div_eq_div_mul]
      omega
    rw [show 6 - j = (6 - (j + 1)) + 1 by omega, e1, hset_s (Nat.mod_lt _ (by decide))]
    split
    · have hl : hset s (6 - (j + 1)) (c / 4 ^ (j + 1)) h < 2 ^ (6 - (j + 1)) := bl_lt _ _
      rw [sub_bit]
      intro i hi
      rw [Nat.add_comm]
      have : i < 6 - (j + 1) := by
        apply Classical.byContradiction
        intro q
        rw [Nat.testBit_lt_two_pow (Nat.lt_of_lt_of_le hl (Nat.pow_le_pow_right (by decide) (by omega)))] at hi
        cases hi
      rw [Nat.testBit_two_pow_add_gt this]
      exact hi
    · exact Nat.and_self _
def GP (F T R : Nat) (ix : Nat → Nat) (P : Nat → Prop) (I : Nat → Nat → Int32) (J : Nat → Nat → Int64) (I' : Nat → Nat → Int32) (J' : Nat → Nat → Int64) : Prop := (∀ a, a ≠ R → I' a = I a) ∧ (∀ a, a ≠ T → J' a = J a) ∧ (∀ c, P c → J' T (ix c) = J F (ix c) ∧ I' R (ix c) = ((J F (ix c)) >>> ((nI 32).toInt64 &&& 63)).toInt32) ∧ (∀ n, (∀ c, P c → n ≠ ix c) → J' T n = J T n ∧ I' R n = I R n)
theorem GP_tr {F T R : Nat} {ix : Nat → Nat} {P P2 P3 : Nat → Prop} {I I1 I2 : Nat → Nat → Int32} {J J1 J2 : Nat → Nat → Int64} (hFT : F ≠ T) (h : GP F T R ix P I J I1 J1) (h2 : GP F T R ix P2 I1 J1 I2 J2) (h3 : ∀ c, P3 c ↔ (P c ∨ P2 c)) : GP F T R ix P3 I J I2 J2 := by
  obtain ⟨a1, a2, a3, a4⟩ := h
  obtain ⟨b1, b2, b3, b4⟩ := h2
  have eF : J1 F = J F := a2 F hFT
  refine ⟨fun a ha => (b1 a ha).trans (a1 a ha), fun a ha => (b2 a ha).trans (a2 a ha), ?_, ?_⟩
  · intro c hc
    by_cases q : ∃ c2, P2 c2 ∧ ix c = ix c2
    · obtain ⟨c2, p2, e⟩ := q
      have := b3 c2 p2
      rw [e, this.1, this.2, eF]
      exact ⟨rfl, rfl⟩
    · have hn := b4 (ix c) (fun c2 p2 e => q ⟨c2, p2, e⟩)
      rcases (h3 c).1 hc with z | z
      · rw [hn.1, hn.2]
        exact a3 c z
      · exact absurd ⟨c, z, rfl⟩ q
  · intro n hn
    have h1 := b4 n (fun c p => hn c ((h3 c).2 (Or.inr p)))
    have h2 := a4 n (fun c p => hn c ((h3 c).2 (Or.inl p)))
    exact ⟨h1.1.trans h2.1, h1.2.trans h2.2⟩
theorem GP_rf {F T R : Nat} {ix : Nat → Nat} {P : Nat → Prop} {I : Nat → Nat → Int32} {J : Nat → Nat → Int64} (h : ∀ c, ¬ P c) : GP F T R ix P I J I J := ⟨fun _ _ => rfl, fun _ _ => rfl, fun c hc => absurd hc (h c), fun _ _ => ⟨rfl, rfl⟩⟩
section GV
variable {d : Nat} {g : aG} {Q : aQ} {S : Nat → Nat → Nat} {LF : aLF}
theorem PG_b {B : Nat} (h : PG g B) {n : Nat} (hn : n < 12) : gR g (gR g 44 6) n = B + 1 + n ∧ gK g (B + 1 + n) = 12 ∧ gN g (B + 1 + n) = 4096 := by
  have := h.2.2.2.2.2.1 n hn
  rw [h.2.1]
  exact this
theorem c_give {B nw b : Nat} (hg : Geo g) (hB : SB S) (hP : PG g B) (hw : nw < 2) (hb : b < 12) : ∀ m k, k + m = 6 → ∀ (c0 : Nat) (I : Nat → Nat → Int32) (J : Nat → Nat → Int64) (Q : aQ), c0 < 4 ^ k → vdm (S 10 2) (S 10 4) (fun j => sOn2 S j b) k c0 = true → fz S LF b k c0 → CS S I → HB S LF I J b → I 44 13 = nI nw → I 44 14 = nI (bas (S 10 2) (S 10 4)) → I 46 b = nI (sOns S b) → (∀ h, h < 4 → I 48 h = nI (hset (sOns S b) k c0 h)) →
    (∀ I' J', GP (B + 14 + nw) (B + 14 + (1 - nw)) (B + 1 + b) (ixm (S 10 2) (S 10 4) (fun j => sOn2 S j b) 6) (fun c => c < 4096 ∧ c / 4 ^ (6 - k) = c0 ∧ vdm (S 10 2) (S 10 4) (fun j => sOn2 S j b) 6 c = true ∧ fz S LF b 6 c) I J I' J' → Q none (g, I', J')) →
    a_call aTab aMX (d + m + 2) m_Planner_give [.ref 44, .int (nI k), .int (nI b), .int (nI (ixm (S 10 2) (S 10 4) (fun j => sOn2 S j b) k c0))] (g, I, J) Q := by
  have ht := sb10 hB
  have hh : S 10 2 ≤ 3 := ht.2.2.2.1
  have hbs : bas (S 10 2) (S 10 4) ≤ 4 := by unfold bas; split <;> omega
  have a0 := PG_w hP hw
  have a1 := PG_w hP (show 1 - nw < 2 by omega)
  have ab := PG_b hP hb
  have k7 : gK g (gR g 44 7) = 18 := by rw [hP.2.2.1]; exact hP.2.2.2.2.2.2.1
  have n7 : gN g (gR g 44 7) = 2 := by rw [hP.2.2.1]; exact hP.2.2.2.2.2.2.2.1
  have k6 : gK g (gR g 44 6) = 17 := by rw [hP.2.1]; exact hP.2.2.2.1
  have n6 : gN g (gR g 44 6) = 12 := by rw [hP.2.1]; exact hP.2.2.2.2.1
  have hB1 := hP.1
  have hFT : B + 14 + nw ≠ B + 14 + (1 - nw) := by omega
  intro m
  induction m with
  | zero =>
    intro k hkm c0 I J Q hc0 hv0 hf0 hS hH h13 h14 h46 h48 hQ
    have hk : k = 6 := by omega
    subst hk
    have hix : ixm (S 10 2) (S 10 4) (fun j => sOn2 S j b) 6 c0 < 4096 := Nat.lt_of_lt_of_le (ixm_lt _ 6 c0 hv0) (pwm_le hh _ 6)
    have hc0 : c0 < 4096 := hc0
    rw [e_Planner_give, b_Planner_give_0]
    simp (disch := omega) only [b_Planner_give_6, ↓reduceIte, nadd, nmul, nsub, nlt, neq, ncl, nvi, ndiv, nrem, exI, exJ, exV, eq_self, true_and, and_true, true_or, or_true, if_true, if_false, not_true, not_false_eq_true, false_and, and_false, decide_true, decide_false, bi_T, bi_F, bi_0, bi_1, bi_z, bft, n10, n01, Nat.reduceEqDiff, Nat.reduceLT, Nat.reduceAdd, Nat.reduceMul, reduceCtorEq, Nat.lt_irrefl, hix]
    rw [b_Planner_give_13 hg]
    simp (disch := omega) only [↓reduceIte, nadd, nmul, nsub, nlt, neq, ncl, nvi, ndiv, nrem, exI, exJ, exV, eq_self, true_and, and_true, true_or, or_true, if_true, if_false, not_true, not_false_eq_true, false_and, and_false, decide_true, decide_false, bi_T, bi_F, bi_0, bi_1, bi_z, bft, n10, n01, Nat.reduceEqDiff, Nat.reduceLT, Nat.reduceAdd, Nat.reduceMul, reduceCtorEq, h13, k7, n7, k6, n6, a0.1, a0.2.1, a0.2.2, a1.1, a1.2.1, a1.2.2, ab.1, ab.2.1, ab.2.2, b_Planner_give_60, hix]
    apply hQ
    refine ⟨fun a ha => u2_r ha, fun a ha => u2_r ha, ?_, ?_⟩
    · rintro c ⟨p1, p2, p3, p4⟩
      have ec : c = c0 := by rw [Nat.sub_self, Nat.pow_zero, Nat.div_one] at p2; exact p2
      rw [ec, u2_s, u2_s, u2_a (by omega)]
      exact ⟨rfl, rfl⟩
    · intro n hn
      have := hn c0 ⟨hc0, by rw [Nat.sub_self, Nat.pow_zero, Nat.div_one], hv0, hf0⟩
      rw [u2_k this, u2_k this]
      exact ⟨rfl, rfl⟩
  | succ m ihm =>
    intro k hkm c0 I J Q hc0 hv0 hf0 hS hH h13 h14 h46 h48 hQ
    have hk6 : k < 6 := by omega
    have ol := ons_lt hB b
    have bit : (sOns S b).testBit k = sOn2 S k b := by rw [ons_bit hB hk6, sOn2_lt hb]
    have e4 : 4 ^ (k + 1) = 4 ^ k * 4 := Nat.pow_succ 4 k
    have ep : 4 ^ (6 - k) = 4 ^ (6 - (k + 1)) * 4 := by rw [← Nat.pow_succ, show (6 - (k + 1)).succ = 6 - k by omega]
    have ediv : ∀ c, c / 4 ^ (6 - k) = c / 4 ^ (6 - (k + 1)) / 4 := fun c => by rw [ep, Nat.div_div_eq_div_mul]
    have vs : ∀ c, vdm (S 10 2) (S 10 4) (fun j => sOn2 S j b) (k + 1) c = (vdm (S 10 2) (S 10 4) (fun j => sOn2 S j b) k (c / 4) && (if sOn2 S k b then vh (S 10 2) (S 10 4) (c % 4) else decide (c % 4 = 0))) := fun c => rfl
    rw [show d + (m + 1) + 2 = (d + m + 2) + 1 by omega, e_Planner_give, b_Planner_give_0]
    simp (disch := omega) only [b_Planner_give_61 hg, ↓reduceIte, nadd, nmul, nsub, nlt, neq, ncl, nvi, ndiv, nrem, exI, exJ, exV, eq_self, true_and, and_true, true_or, or_true, if_true, if_false, not_true, not_false_eq_true, false_and, and_false, decide_true, decide_false, bi_T, bi_F, bi_0, bi_1, bi_z, bft, n10, n01, Nat.reduceEqDiff, Nat.reduceLT, Nat.reduceAdd, Nat.reduceMul, reduceCtorEq, hk6, h46, bt_sh, bt_nI, bit]
    cases q : sOn2 S k b
    · -- off
      have hixe : ixm (S 10 2) (S 10 4) (fun j => sOn2 S j b) (k + 1) (4 * c0 + 0) = ixm (S 10 2) (S 10 4) (fun j => sOn2 S j b) k c0 := by
        rw [ixm_s]
        show (if sOn2 S k b then _ else _) = _
        rw [q, if_neg (by decide), show (4 * c0 + 0) / 4 = c0 by omega]
      have nb : ¬ (sOns S b).testBit k = true := by rw [bit, q]; decide
      rw [← hixe]
      simp (disch := omega) only [b_Planner_give_74 hg, ↓reduceIte, nadd, nmul, nsub, nlt, neq, ncl, nvi, ndiv, nrem, exI, exJ, exV, eq_self, true_and, and_true, true_or, or_true, if_true, if_false, not_true, not_false_eq_true, false_and, and_false, decide_true, decide_false, bi_T, bi_F, bi_0, bi_1, bi_z, bft, n10, n01, Nat.reduceEqDiff, Nat.reduceLT, Nat.reduceAdd, Nat.reduceMul, reduceCtorEq]
      refine ihm (k + 1) (by omega) (4 * c0 + 0) I J _ (by omega) ?_ ?_ hS hH h13 h14 h46 ?_ ?_
      · rw [vs, q, show (4 * c0 + 0) / 4 = c0 by omega, hv0, show (4 * c0 + 0) % 4 = 0 by omega]; rfl
      · intro h hh4
        rw [hset_n (by decide) nb]
        exact hf0 h hh4
      · intro h hh4
        rw [hset_n (by decide) nb]
        exact h48 h hh4
      · intro I' J' hG
        refine ⟨rfl, ?_⟩
        rw [b_Planner_give_83]
        apply hQ
        refine GP_tr hFT hG (GP_rf (P := fun _ => False) (fun _ z => z)) ?_
        intro c
        constructor
        · rintro ⟨p1, p2, p3, p4⟩
          left
          refine ⟨p1, ?_, p3, p4⟩
          have hvk := vd_split _ c p3 (6 - (k + 1)) (by omega)
          rw [show 6 - (6 - (k + 1)) = k + 1 by omega, vs, q, Bool.and_eq_true] at hvk
          have := of_decide_eq_true hvk.2
          rw [ediv] at p2
          omega
        · rintro (⟨p1, p2, p3, p4⟩ | z)
          · exact ⟨p1, by rw [ediv]; omega, p3, p4⟩
          · exact z.elim
    · -- on
      simp (disch := omega) only [b_Planner_give_84, ↓reduceIte, nadd, nmul, nsub, nlt, neq, ncl, nvi, ndiv, nrem, exI, exJ, exV, eq_self, true_and, and_true, true_or, or_true, if_true, if_false, not_true, not_false_eq_true, false_and, and_false, decide_true, decide_false, bi_T, bi_F, bi_0, bi_1, bi_z, bft, n10, n01, Nat.reduceEqDiff, Nat.reduceLT, Nat.reduceAdd, Nat.reduceMul, reduceCtorEq]
      have hbit : (sOns S b).testBit k = true := by rw [bit, q]
      have loop : ∀ x, x ≤ bas (S 10 2) (S 10 4) → ∀ I2 J2, GP (B + 14 + nw) (B + 14 + (1 - nw)) (B + 1 + b) (ixm (S 10 2) (S 10 4) (fun j => sOn2 S j b) 6) (fun c => c < 4096 ∧ (∃ y, y < x ∧ c / 4 ^ (6 - (k + 1)) = 4 * c0 + hO (S 10 2) y) ∧ vdm (S 10 2) (S 10 4) (fun j => sOn2 S j b) 6 c = true ∧ fz S LF b 6 c) I J I2 J2 → ∀ v5 v6 v7, a_wp aTab aMX (d + m + 2) m_Planner_give 87 [.ref 44, .int (nI k), .int (nI b), .int (nI (ixm (S 10 2) (S 10 4) (fun j => sOn2 S j b) k c0)), .int (nI x), v5, v6, v7] [] (g, I2, J2) Q := by
        refine dn ?_ ?_
        · intro I2 J2 hG v5 v6 v7
          have x14 : I2 44 14 = nI (bas (S 10 2) (S 10 4)) := by rw [hG.1 44 (by omega)]; exact h14
          simp (disch := omega) only [b_Planner_give_87 hg, b_Planner_give_177, ↓reduceIte, nadd, nmul, nsub, nlt, neq, ncl, nvi, ndiv, nrem, exI, exJ, exV, eq_self, true_and, and_true, true_or, or_true, if_true, if_false, not_true, not_false_eq_true, false_and, and_false, decide_true, decide_false, bi_T, bi_F, bi_0, bi_1, bi_z, bft, n10, n01, Nat.reduceEqDiff, Nat.reduceLT, Nat.reduceAdd, Nat.reduceMul, reduceCtorEq, x14, Nat.lt_irrefl]
          apply hQ
          refine GP_tr hFT hG (GP_rf (P := fun _ => False) (fun _ z => z)) ?_
          intro c
          constructor
          · rintro ⟨p1, p2, p3, p4⟩
            left
            refine ⟨p1, ?_, p3, p4⟩
            have hvk := vd_split _ c p3 (6 - (k + 1)) (by omega)
            rw [show 6 - (6 - (k + 1)) = k + 1 by omega, vs, q, Bool.and_eq_true] at hvk
            have hvk2 : vh (S 10 2) (S 10 4) (c / 4 ^ (6 - (k + 1)) % 4) = true := hvk.2
            refine ⟨dO (S 10 2) (c / 4 ^ (6 - (k + 1)) % 4), dO_lt hvk2, ?_⟩
            rw [hO_dO hh hvk2]
            rw [ediv] at p2
            omega
          · rintro (⟨p1, ⟨y, hy, p2⟩, p3, p4⟩ | z)
            · have := hO_lt (x := y) hh
              exact ⟨p1, by rw [ediv]; omega, p3, p4⟩
            · exact z.elim
        · intro x hx ih I2 J2 hG v5 v6 v7
          have hx4 := hO_lt (x := x) hh
          have hvx := vh_hO hx
          have fr : ∀ a, a ≠ B + 1 + b → I2 a = I a := hG.1
          have frJ : ∀ a, a ≠ B + 14 + (1 - nw) → J2 a = J a := hG.2.1
          have x14 : I2 44 14 = nI (bas (S 10 2) (S 10 4)) := by rw [fr 44 (by omega)]; exact h14
          have hS2 : CS S I2 := ⟨fun a k h1 h2 => by rw [fr a (by omega)]; exact hS.1 a k h1 h2, hS.2⟩
          have hH2 : HB S LF I2 J2 b := HB_c (fr 38 (by omega)) (frJ 37 (by omega)) hH
          have h48x : I2 48 (hO (S 10 2) x) = nI (hset (sOns S b) k c0 (hO (S 10 2) x)) := by rw [fr 48 (by omega)]; exact h48 _ hx4
          have hl : hset (sOns S b) k c0 (hO (S 10 2) x) < 2 ^ k := bl_lt _ _
          have hk64 : 2 ^ (k + 1) ≤ 64 := Nat.pow_le_pow_right (n := 2) (by decide) (show k + 1 ≤ 6 by omega)
          have hk64b : 2 ^ (k + 1) = 2 ^ k * 2 := Nat.pow_succ 2 k
          have hor := or_top hl
          -- the new beginning
          have hsn : ∀ h, hset (sOns S b) (k + 1) (4 * c0 + hO (S 10 2) x) h = if h = hO (S 10 2) x then hset (sOns S b) k c0 (hO (S 10 2) x) + 2 ^ k else hset (sOns S b) k c0 h := by
            intro h
            rw [hset_s hx4]
            by_cases z : h = hO (S 10 2) x
            · rw [if_pos ⟨hbit, z.symm⟩, if_pos z, z]
            · rw [if_neg (fun w => z w.2.symm), if_neg z]
          have hle : hset (sOns S b) k c0 (hO (S 10 2) x) + 2 ^ k < 64 := by omega
          have nxt : ∀ I3 J3, GP (B + 14 + nw) (B + 14 + (1 - nw)) (B + 1 + b) (ixm (S 10 2) (S 10 4) (fun j => sOn2 S j b) 6) (fun c => c < 4096 ∧ c / 4 ^ (6 - (k + 1)) = 4 * c0 + hO (S 10 2) x ∧ vdm (S 10 2) (S 10 4) (fun j => sOn2 S j b) 6 c = true ∧ fz S LF b 6 c) I2 J2 I3 J3 → ∀ v5 v6 v7, a_wp aTab aMX (d + m + 2) m_Planner_give 171 [.ref 44, .int (nI k), .int (nI b), .int (nI (ixm (S 10 2) (S 10 4) (fun j => sOn2 S j b) k c0)), .int (nI x), v5, v6, v7] [] (g, I3, J3) Q := by
            intro I3 J3 hG3 v5 v6 v7
            rw [b_Planner_give_171, nadd]
            refine ih I3 J3 (GP_tr hFT hG hG3 ?_) _ _ _
            intro c
            constructor
            · rintro ⟨p1, ⟨y, hy, p2⟩, p3, p4⟩
              by_cases z : y = x
              · right; exact ⟨p1, by rw [p2, z], p3, p4⟩
              · left; exact ⟨p1, ⟨y, by omega, p2⟩, p3, p4⟩
            · rintro (⟨p1, ⟨y, hy, p2⟩, p3, p4⟩ | ⟨p1, p2, p3, p4⟩)
              · exact ⟨p1, ⟨y, by omega, p2⟩, p3, p4⟩
              · exact ⟨p1, ⟨x, by omega, p2⟩, p3, p4⟩
          rw [b_Planner_give_87 hg]
          simp (disch := omega) only [b_Planner_give_96 hg, b_Planner_give_102 hg, ↓reduceIte, nadd, nmul, nsub, nlt, neq, ncl, nvi, ndiv, nrem, exI, exJ, exV, eq_self, true_and, and_true, true_or, or_true, if_true, if_false, not_true, not_false_eq_true, false_and, and_false, decide_true, decide_false, bi_T, bi_F, bi_0, bi_1, bi_z, bft, n10, n01, Nat.reduceEqDiff, Nat.reduceLT, Nat.reduceAdd, Nat.reduceMul, reduceCtorEq, x14, hx, c_holderOf hg hS2, h48x, nshl, nor, hor]
          rw [c_hCanHold hg hb hx4 hle hH2]
          simp (disch := omega) only [↓reduceIte, nadd, nmul, nsub, nlt, neq, ncl, nvi, ndiv, nrem, exI, exJ, exV, eq_self, true_and, and_true, true_or, or_true, if_true, if_false, not_true, not_false_eq_true, false_and, and_false, decide_true, decide_false, bi_T, bi_F, bi_0, bi_1, bi_z, bft, n10, n01, Nat.reduceEqDiff, Nat.reduceLT, Nat.reduceAdd, Nat.reduceMul, reduceCtorEq]
          cases qc : canS S LF (hO (S 10 2) x) b (hset (sOns S b) k c0 (hO (S 10 2) x) + 2 ^ k)
          · -- can't
            simp (disch := omega) only [b_Planner_give_133, ↓reduceIte, nadd, nmul, nsub, nlt, neq, ncl, nvi, ndiv, nrem, exI, exJ, exV, eq_self, true_and, and_true, true_or, or_true, if_true, if_false, not_true, not_false_eq_true, false_and, and_false, decide_true, decide_false, bi_T, bi_F, bi_0, bi_1, bi_z, bft, n10, n01, Nat.reduceEqDiff, Nat.reduceLT, Nat.reduceAdd, Nat.reduceMul, reduceCtorEq]
            refine nxt I2 J2 (GP_rf ?_) _ _ _
            rintro c ⟨p1, p2, p3, p4⟩
            have h1 := p4 (hO (S 10 2) x) hx4
            have h2 := hset_pre (s := sOns S b) (c := c) (h := hO (S 10 2) x) (6 - (k + 1)) (by omega)
            rw [show 6 - (6 - (k + 1)) = k + 1 by omega, p2, hsn, if_pos rfl] at h2
            rw [canS_anti h2 h1] at qc
            cases qc
          · -- can
            simp (disch := omega) only [b_Planner_give_133, b_Planner_give_136 hg, ↓reduceIte, nadd, nmul, nsub, nlt, neq, ncl, nvi, ndiv, nrem, exI, exJ, exV, eq_self, true_and, and_true, true_or, or_true, if_true, if_false, not_true, not_false_eq_true, false_and, and_false, decide_true, decide_false, bi_T, bi_F, bi_0, bi_1, bi_z, bft, n10, n01, Nat.reduceEqDiff, Nat.reduceLT, Nat.reduceAdd, Nat.reduceMul, reduceCtorEq]
            have eix : ixm (S 10 2) (S 10 4) (fun j => sOn2 S j b) k c0 * bas (S 10 2) (S 10 4) + x = ixm (S 10 2) (S 10 4) (fun j => sOn2 S j b) (k + 1) (4 * c0 + hO (S 10 2) x) := by
              rw [ixm_s]
              show _ = (if sOn2 S k b then _ else _)
              rw [q, if_pos rfl, show (4 * c0 + hO (S 10 2) x) / 4 = c0 by omega, show (4 * c0 + hO (S 10 2) x) % 4 = hO (S 10 2) x by omega, dO_hO hh hx]
            have x14b : (u2 I2 48 (hO (S 10 2) x) (nI (hset (sOns S b) k c0 (hO (S 10 2) x) + 2 ^ k))) 44 14 = nI (bas (S 10 2) (S 10 4)) := by rw [u2_a (by decide)]; exact x14
            rw [x14b]
            simp (disch := omega) only [↓reduceIte, nadd, nmul, nsub, nlt, neq, ncl, nvi, ndiv, nrem, exI, exJ, exV, eq_self, true_and, and_true, true_or, or_true, if_true, if_false, not_true, not_false_eq_true, false_and, and_false, decide_true, decide_false, bi_T, bi_F, bi_0, bi_1, bi_z, bft, n10, n01, Nat.reduceEqDiff, Nat.reduceLT, Nat.reduceAdd, Nat.reduceMul, reduceCtorEq, eix]
            refine ihm (k + 1) (by omega) (4 * c0 + hO (S 10 2) x) _ J2 _ (by omega) ?_ ?_ ?_ ?_ ?_ x14b ?_ ?_ ?_
            · rw [vs, q, show (4 * c0 + hO (S 10 2) x) / 4 = c0 by omega, hv0, show (4 * c0 + hO (S 10 2) x) % 4 = hO (S 10 2) x by omega]
              exact hvx
            · intro h hh4
              rw [hsn]
              by_cases z : h = hO (S 10 2) x
              · rw [if_pos z, z]; exact qc
              · rw [if_neg z]; exact hf0 h hh4
            · exact ⟨fun a k h1 h2 => by rw [u2_a (by omega)]; exact hS2.1 a k h1 h2, hS.2⟩
            · exact HB_c (u2_r (by decide)) rfl hH2
            · rw [u2_a (by decide), fr 44 (by omega)]; exact h13
            · rw [u2_a (by decide), fr 46 (by omega)]; exact h46
            · intro h hh4
              rw [hsn]
              by_cases z : h = hO (S 10 2) x
              · rw [if_pos z, z, u2_s]
              · rw [if_neg z, u2_k z, fr 48 (by omega)]
                exact h48 h hh4
            · intro I3 J3 hG3
              refine ⟨rfl, ?_⟩
              rw [b_Planner_give_162 hg]
              simp (disch := omega) only [↓reduceIte, nadd, nmul, nsub, nlt, neq, ncl, nvi, ndiv, nrem, exI, exJ, exV, eq_self, true_and, and_true, true_or, or_true, if_true, if_false, not_true, not_false_eq_true, false_and, and_false, decide_true, decide_false, bi_T, bi_F, bi_0, bi_1, bi_z, bft, n10, n01, Nat.reduceEqDiff, Nat.reduceLT, Nat.reduceAdd, Nat.reduceMul, reduceCtorEq]
              have e48 : u2 I3 48 (hO (S 10 2) x) (nI (hset (sOns S b) k c0 (hO (S 10 2) x))) 48 = I2 48 := by
                funext j
                by_cases z : j = hO (S 10 2) x
                · rw [z, u2_s, h48x]
                · rw [u2_k z, hG3.1 48 (by omega), u2_k z]
              refine nxt _ J3 ⟨?_, hG3.2.1, ?_, ?_⟩ _ _ _
              · intro a ha
                by_cases z : a = 48
                · rw [z]; exact e48
                · rw [u2_r z, hG3.1 a ha, u2_r z]
              · intro c hc
                rw [u2_a (by omega)]
                exact hG3.2.2.1 c hc
              · intro n hn
                have := hG3.2.2.2 n hn
                rw [u2_a (show B + 1 + b ≠ 48 by omega)] at this ⊢
                exact this
      exact loop 0 (by omega) I J (GP_rf (by rintro c ⟨-, ⟨y, hy, -⟩, -⟩; omega)) _ _ _
end GV
