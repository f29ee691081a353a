/-! ===== holder, passed ===== -/
section HDR
variable {N : Nat} {X : Nat → Int32} {ow : Nat → Nat} {S : Nat → Nat → Nat} {LF : aLF} {g : aG} {I : Nat → Nat → Int32} {J : Nat → Nat → Int64} {Q : aQ} {d : Nat}
/-- who holds a figure at a beat in the first least plan -/
def whoS (S : Nat → Nat → Nat) (LF : aLF) (f b : Nat) : Nat := dg 6 (fcS S LF (b + 1)).1 f
theorem fc_isB (hl : lcS S LF < 1000000) {b : Nat} (hb : b < 12) : isB S LF b (fcS S LF (b + 1)).1 = true := by
  obtain ⟨-, h2, -⟩ := fc_ok hl (b + 1) (by omega)
  obtain ⟨h3, h4⟩ := h2 (by omega)
  rw [h4, show b + 1 - 1 = b by omega] at h3
  unfold cst at h3
  rw [dp_k hb] at h3
  unfold kpD at h3
  cases q : isB S LF b (fcS S LF (b + 1)).1 with
  | true => rfl
  | false => rw [q] at h3; exact absurd h3 (by simp)
theorem who_v (hB : SB S) (hl : lcS S LF < 1000000) {f b : Nat} (hb : b < 12) (hf : f < 6) (ho : sOn S f b = true) : vh (S 10 2) (S 10 4) (whoS S LF f b) = true := isB_vh hB (fc_isB hl hb) hf ho
theorem who_4 {f b : Nat} : whoS S LF f b < 4 := by
  unfold whoS dg
  exact Nat.mod_lt _ (by decide)
theorem c_holderAt (hg : Geo g) (hS : CS S I) (hl : lcS S LF < 1000000) (hP : PR S LF I) {f b : Nat} (hf : f < 6) (hb : b < 12) : a_call aTab aMX (d + 2) m_Planner_holderAt [.ref 44, .int (nI f), .int (nI b)] (g, I, J) Q = Q (some (.int (if sOn S f b then nI (whoS S LF f b) else -1))) (g, I, J) := by
  have ht := sb10 hS.2
  cases ho : sOn S f b with
  | false =>
    simp (disch := omega) only [e_Planner_holderAt, b_Planner_holderAt_0 hg, b_Planner_holderAt_9, b_Planner_holderAt_12 hg, b_Planner_holderAt_27, b_Planner_holderAt_30, b_Planner_holderAt_31, c_isOnN hg hS, ho, exI, exJ, exV, eq_self, true_and, and_true, true_or, or_true, if_true, if_false, not_true, not_false_eq_true, false_and, and_false, decide_true, decide_false, bi_T, bi_F, bi_0, bi_1, bi_z, bft, n10, n01, Nat.reduceEqDiff, Nat.reduceLT, Nat.reduceAdd, Nat.reduceMul, reduceCtorEq]
  | true =>
    have e := (hP.2 hl).2.2 b hb f hf (by unfold sOn2; rw [decide_eq_true hb, ho]; rfl)
    have e2 := hO_dO (hh := ht.2.2.2.1) (who_v hS.2 hl hb hf ho)
    have w4 := who_4 (S := S) (LF := LF) (f := f) (b := b)
    have d4 : dO (S 10 2) (whoS S LF f b) < 1000 := by unfold dO; split <;> omega
    rw [show dg 6 (fcS S LF (b + 1)).1 f = whoS S LF f b from rfl] at e
    simp (disch := omega) only [e_Planner_holderAt, b_Planner_holderAt_0 hg, b_Planner_holderAt_9, b_Planner_holderAt_12 hg, b_Planner_holderAt_27, b_Planner_holderAt_30, b_Planner_holderAt_31, c_isOnN hg hS, ho, ↓reduceIte, nadd, nmul, nsub, nlt, neq, ncl, nvi, ndiv, nrem, nand, nor, nxor, nshl, nshr, exI, exJ, exV, eq_self, true_and, and_true, true_or, or_true, if_true, if_false, not_true, not_false_eq_true, false_and, and_false, decide_true, decide_false, bi_T, bi_F, bi_0, bi_1, bi_z, bft, n10, n01, Nat.reduceEqDiff, Nat.reduceLT, Nat.reduceAdd, Nat.reduceMul, reduceCtorEq, e, c_holderOf hg hS, e2]
theorem m_holder {f b : Int32} (h : INV N X ow S LF g I J) : BOTH N X (d + 12) m_Cp_holder m_Mo_holder [.int f, .int b] (g, I, J) := by
  have hg := h.1.1
  have hS := h.2.2.1.1
  have hB := hS.2
  have h7 := sb7 hB 0
  by_cases q : ∃ n k, n < S 7 0 ∧ k < 12 ∧ f = nI n ∧ b = nI k ∧ sOn S n k = true
  rotate_left
  · unfold BOTH
    simp (disch := omega) only [e_Cp_holder, b_Cp_holder_0 hg, b_Cp_holder_9, b_Cp_holder_22, c_isOn hg hS, onI_f hS q, exI, exJ, exV, eq_self, true_and, and_true, true_or, or_true, if_true, if_false, not_true, not_false_eq_true, false_and, and_false, decide_true, decide_false, bi_T, bi_F, bi_0, bi_1, bi_z, bft, n10, n01, Nat.reduceEqDiff, Nat.reduceLT, Nat.reduceAdd, Nat.reduceMul, reduceCtorEq]
    refine ⟨h.2.1, h.1.2.2.1, ?_⟩
    rw [e_Mo_holder, b_Mo_holder_0 hg]
    refine c_mflO (d := d + 2) (INV_0 h) (fun I3 J3 i3 l3 => ?_)
    simp only [exV, true_and]
    have hM3 := i3.2.2.1.2.1
    cases hb : beI b with
    | false =>
      simp (disch := omega) only [b_Mo_holder_9, b_Mo_holder_13, b_Mo_holder_60, b_Mo_holder_61, c_mIsBeat, hb, exI, exJ, exV, eq_self, true_and, and_true, true_or, or_true, if_true, if_false, not_true, not_false_eq_true, false_and, and_false, decide_true, decide_false, bi_T, bi_F, bi_0, bi_1, bi_z, bft, n10, n01, Nat.reduceEqDiff, Nat.reduceLT, Nat.reduceAdd, Nat.reduceMul, reduceCtorEq]
      exact INVx_i i3
    | true =>
      obtain ⟨k, hk, rfl⟩ := beI_of hb
      rw [b_Mo_holder_9]
      simp (disch := omega) only [b_Mo_holder_13, c_mIsBeat, hb, exI, exJ, exV, eq_self, true_and, and_true, true_or, or_true, if_true, if_false, not_true, not_false_eq_true, false_and, and_false, decide_true, decide_false, bi_T, bi_F, bi_0, bi_1, bi_z, bft, n10, n01, Nat.reduceEqDiff, Nat.reduceLT, Nat.reduceAdd, Nat.reduceMul, reduceCtorEq]
      rw [b_Mo_holder_16 hg]
      by_cases z : I3 89 44 < nI 1000000
      · have e0 : ¬ ∃ n, n < S 7 0 ∧ f = nI n ∧ sOn S n k = true := fun ⟨n, y1, y2, y3⟩ => q ⟨n, k, y1, hk, y2, rfl, y3⟩
        simp (disch := omega) only [z, b_Mo_holder_26, b_Mo_holder_32, b_Mo_holder_35, b_Mo_holder_40 hg, b_Mo_holder_43, b_Mo_holder_60, b_Mo_holder_61, c_mIsBeat, hb, mOn_f hg hB hM3 hk e0, exI, exJ, exV, eq_self, true_and, and_true, true_or, or_true, if_true, if_false, not_true, not_false_eq_true, false_and, and_false, decide_true, decide_false, bi_T, bi_F, bi_0, bi_1, bi_z, bft, n10, n01, Nat.reduceEqDiff, Nat.reduceLT, Nat.reduceAdd, Nat.reduceMul, reduceCtorEq]
        exact INVx_i i3
      · simp (disch := omega) only [z, b_Mo_holder_60, b_Mo_holder_61, exI, exJ, exV, eq_self, true_and, and_true, true_or, or_true, if_true, if_false, not_true, not_false_eq_true, false_and, and_false, decide_true, decide_false, bi_T, bi_F, bi_0, bi_1, bi_z, bft, n10, n01, Nat.reduceEqDiff, Nat.reduceLT, Nat.reduceAdd, Nat.reduceMul, reduceCtorEq]
        exact INVx_i i3
  obtain ⟨n, k, hn, hk, rfl, rfl, ho⟩ := q
  have hb := beI_n hk
  unfold BOTH
  simp (disch := omega) only [e_Cp_holder, b_Cp_holder_0 hg, b_Cp_holder_9, b_Cp_holder_12 hg, c_isOnN hg hS, ho, exI, exJ, exV, eq_self, true_and, and_true, true_or, or_true, if_true, if_false, not_true, not_false_eq_true, false_and, and_false, decide_true, decide_false, bi_T, bi_F, bi_0, bi_1, bi_z, bft, n10, n01, Nat.reduceEqDiff, Nat.reduceLT, Nat.reduceAdd, Nat.reduceMul, reduceCtorEq]
  refine c_flO h (fun ow2 g2 I2 J2 i2 f1 f2 => ?_)
  have hg2 := i2.1.1
  have hS2 := i2.2.2.1.1
  have ref : ∀ V : Int32, V = (if lcS S LF < 1000000 then nI (whoS S LF n k) else -1) → a_call aTab aMX (d + 12) m_Mo_holder [.ref 89, .int (nI n), .int (nI k)] (g2, I2, J2) (fun v3 h3 => ∃ i3 : Int32, v3 = some (.int i3) ∧ V = i3 ∧ INVx N X h3) := by
    intro V eV
    rw [e_Mo_holder, b_Mo_holder_0 hg2]
    refine c_mflO (d := d + 2) (INV_0 i2) (fun I3 J3 i3 l3 => ?_)
    simp only [exV, true_and]
    have hM3 := i3.2.2.1.2.1
    by_cases z : lcS S LF < 1000000
    · rw [if_pos z] at eV
      have e := l3.2.2 z k hk n (by omega)
      simp (disch := omega) only [b_Mo_holder_9, b_Mo_holder_13, b_Mo_holder_16 hg2, b_Mo_holder_26, b_Mo_holder_32, b_Mo_holder_35, b_Mo_holder_40 hg2, b_Mo_holder_43, b_Mo_holder_46 hg2, b_Mo_holder_61, c_mIsBeat, hb, l3.1, nlt, z, c_mIsOn hg2 hB hM3, ho, nmul, nadd, nvi, ncl, e, eV, exI, exJ, exV, eq_self, true_and, and_true, true_or, or_true, if_true, if_false, not_true, not_false_eq_true, false_and, and_false, decide_true, decide_false, bi_T, bi_F, bi_0, bi_1, bi_z, bft, n10, n01, Nat.reduceEqDiff, Nat.reduceLT, Nat.reduceAdd, Nat.reduceMul, reduceCtorEq, whoS]
      exact INVx_i i3
    · rw [if_neg z] at eV
      have zz := (lw_0 z).1
      simp (disch := omega) only [b_Mo_holder_9, b_Mo_holder_13, b_Mo_holder_16 hg2, b_Mo_holder_60, b_Mo_holder_61, c_mIsBeat, hb, l3.1, nlt, z, eV, exI, exJ, exV, eq_self, true_and, and_true, true_or, or_true, if_true, if_false, not_true, not_false_eq_true, false_and, and_false, decide_true, decide_false, bi_T, bi_F, bi_0, bi_1, bi_z, bft, n10, n01, Nat.reduceEqDiff, Nat.reduceLT, Nat.reduceAdd, Nat.reduceMul, reduceCtorEq]
      exact INVx_i i3
  by_cases z : lcS S LF < 1000000
  · simp (disch := omega) only [b_Cp_holder_19, b_Cp_holder_24 hg2, b_Cp_holder_33, z, c_holderAt hg2 hS2 z f2, ho, exI, exJ, exV, eq_self, true_and, and_true, true_or, or_true, if_true, if_false, not_true, not_false_eq_true, false_and, and_false, decide_true, decide_false, bi_T, bi_F, bi_0, bi_1, bi_z, bft, n10, n01, Nat.reduceEqDiff, Nat.reduceLT, Nat.reduceAdd, Nat.reduceMul, reduceCtorEq]
    exact ⟨i2.2.1, i2.1.2.2.1, ref _ (by rw [if_pos z])⟩
  · simp (disch := omega) only [b_Cp_holder_19, b_Cp_holder_22, z, exI, exJ, exV, eq_self, true_and, and_true, true_or, or_true, if_true, if_false, not_true, not_false_eq_true, false_and, and_false, decide_true, decide_false, bi_T, bi_F, bi_0, bi_1, bi_z, bft, n10, n01, Nat.reduceEqDiff, Nat.reduceLT, Nat.reduceAdd, Nat.reduceMul, reduceCtorEq]
    exact ⟨i2.2.1, i2.1.2.2.1, ref _ (by rw [if_neg z])⟩
def psS (S : Nat → Nat → Nat) (LF : aLF) (f : Nat) : Nat → Nat
  | 0 => 0
  | b + 1 => psS S LF f b + if sOn S f b && sOn S f (b + 1) && decide (whoS S LF f b ≠ whoS S LF f (b + 1)) then 1 else 0
theorem m_passed {f : Int32} (h : INV N X ow S LF g I J) : BOTH N X (d + 12) m_Cp_passed m_Mo_passed [.int f] (g, I, J) := by
  have hg := h.1.1
  have hS := h.2.2.1.1
  have hB := hS.2
  have h7 := sb7 hB 0
  cases hf : hasS S f with
  | false =>
    unfold BOTH
    simp (disch := omega) only [e_Cp_passed, b_Cp_passed_0 hg, b_Cp_passed_8, b_Cp_passed_21, c_has hg, hasS_I hS, hf, exI, exJ, exV, eq_self, true_and, and_true, true_or, or_true, if_true, if_false, not_true, not_false_eq_true, false_and, and_false, decide_true, decide_false, bi_T, bi_F, bi_0, bi_1, bi_z, bft, n10, n01, Nat.reduceEqDiff, Nat.reduceLT, Nat.reduceAdd, Nat.reduceMul, reduceCtorEq]
    refine ⟨h.2.1, h.1.2.2.1, ?_⟩
    rw [e_Mo_passed, b_Mo_passed_0 hg]
    refine c_mflO (d := d + 2) (INV_0 h) (fun I3 J3 i3 l3 => ?_)
    simp only [exV, true_and]
    simp (disch := omega) only [b_Mo_passed_9 hg, b_Mo_passed_14, b_Mo_passed_27, c_isFigure hg hB i3.2.2.1.2.1, hf, exI, exJ, exV, eq_self, true_and, and_true, true_or, or_true, if_true, if_false, not_true, not_false_eq_true, false_and, and_false, decide_true, decide_false, bi_T, bi_F, bi_0, bi_1, bi_z, bft, n10, n01, Nat.reduceEqDiff, Nat.reduceLT, Nat.reduceAdd, Nat.reduceMul, reduceCtorEq]
    exact INVx_i i3
  | true =>
  obtain ⟨n, hn, rfl⟩ := hasS_of hB hf
  unfold BOTH
  simp (disch := omega) only [e_Cp_passed, b_Cp_passed_0 hg, b_Cp_passed_8, b_Cp_passed_11 hg, c_has hg, hasS_I hS, hf, exI, exJ, exV, eq_self, true_and, and_true, true_or, or_true, if_true, if_false, not_true, not_false_eq_true, false_and, and_false, decide_true, decide_false, bi_T, bi_F, bi_0, bi_1, bi_z, bft, n10, n01, Nat.reduceEqDiff, Nat.reduceLT, Nat.reduceAdd, Nat.reduceMul, reduceCtorEq]
  refine c_flO h (fun ow2 g2 I2 J2 i2 f1 f2 => ?_)
  have hg2 := i2.1.1
  have hS2 := i2.2.2.1.1
  have ref : ∀ V : Int32, V = (if lcS S LF < 1000000 then nI (psS S LF n 11) else -1) → a_call aTab aMX (d + 12) m_Mo_passed [.ref 89, .int (nI n)] (g2, I2, J2) (fun v3 h3 => ∃ i3 : Int32, v3 = some (.int i3) ∧ V = i3 ∧ INVx N X h3) := by
    intro V eV
    rw [e_Mo_passed, b_Mo_passed_0 hg2]
    refine c_mflO (d := d + 2) (INV_0 i2) (fun I3 J3 i3 l3 => ?_)
    simp only [exV, true_and]
    have hM3 := i3.2.2.1.2.1
    by_cases z : lcS S LF < 1000000
    rotate_left
    · rw [if_neg z] at eV
      have zz := (lw_0 z).1
      simp (disch := omega) only [b_Mo_passed_9 hg2, b_Mo_passed_14, b_Mo_passed_17 hg2, b_Mo_passed_27, c_isFigure hg2 hB hM3, hf, l3.1, zz, eV, exI, exJ, exV, eq_self, true_and, and_true, true_or, or_true, if_true, if_false, not_true, not_false_eq_true, false_and, and_false, decide_true, decide_false, bi_T, bi_F, bi_0, bi_1, bi_z, bft, n10, n01, Nat.reduceEqDiff, Nat.reduceLT, Nat.reduceAdd, Nat.reduceMul, reduceCtorEq]
      exact INVx_i i3
    rw [if_pos z] at eV
    have zz : ¬ lcS S LF = 1000000 := by omega
    simp (disch := omega) only [b_Mo_passed_9 hg2, b_Mo_passed_14, b_Mo_passed_17 hg2, b_Mo_passed_29, c_isFigure hg2 hB hM3, hf, l3.1, neq, zz, exI, exJ, exV, eq_self, true_and, and_true, true_or, or_true, if_true, if_false, not_true, not_false_eq_true, false_and, and_false, decide_true, decide_false, bi_T, bi_F, bi_0, bi_1, bi_z, bft, n10, n01, Nat.reduceEqDiff, Nat.reduceLT, Nat.reduceAdd, Nat.reduceMul, reduceCtorEq]
    refine dn (P := fun b => a_wp aTab aMX (d + 11) m_Mo_passed 33 [.ref 89, .int (nI n), .int (nI (psS S LF n b)), .int (nI (b + 1))] [] (g2, I3, J3) (fun v3 h3 => ∃ i3 : Int32, v3 = some (.int i3) ∧ V = i3 ∧ INVx N X h3)) (n := 11) ?_ ?_ 0 (by omega)
    · rw [b_Mo_passed_33]
      simp (disch := omega) only [nlt, Nat.reduceAdd, Nat.lt_irrefl, b_Mo_passed_100, eV, exI, exJ, exV, eq_self, true_and, and_true, true_or, or_true, if_true, if_false, not_true, not_false_eq_true, false_and, and_false, decide_true, decide_false, bi_T, bi_F, bi_0, bi_1, bi_z, bft, n10, n01, Nat.reduceEqDiff, Nat.reduceLT, Nat.reduceAdd, Nat.reduceMul, reduceCtorEq]
      exact INVx_i i3
    · intro b hb ih
      have w1 := who_4 (S := S) (LF := LF) (f := n) (b := b)
      have w2 := who_4 (S := S) (LF := LF) (f := n) (b := b + 1)
      have e1 : I3 112 (6 * b + n) = nI (whoS S LF n b) := l3.2.2 z b (by omega) n (by omega)
      have e2 : I3 112 (6 * (b + 1) + n) = nI (whoS S LF n (b + 1)) := l3.2.2 z (b + 1) (by omega) n (by omega)
      rw [show psS S LF n (b + 1) = psS S LF n b + if sOn S n b && sOn S n (b + 1) && decide (whoS S LF n b ≠ whoS S LF n (b + 1)) then 1 else 0 from rfl] at ih
      rw [b_Mo_passed_33]
      have hb2 : b + 1 < 12 := by omega
      have hs : b + 1 - 1 = b := by omega
      cases o1 : sOn S n b with
      | false =>
        simp only [o1, Bool.false_and, exI, exJ, exV, eq_self, true_and, and_true, true_or, or_true, if_true, if_false, not_true, not_false_eq_true, false_and, and_false, decide_true, decide_false, bi_T, bi_F, bi_0, bi_1, bi_z, bft, n10, n01, Nat.reduceEqDiff, Nat.reduceLT, Nat.reduceAdd, Nat.reduceMul, reduceCtorEq] at ih
        simp (disch := omega) only [nlt, hb2, b_Mo_passed_39 hg2, b_Mo_passed_48, b_Mo_passed_91, b_Mo_passed_92, nsub, hs, c_mIsOn hg2 hB hM3, o1, nadd, exI, exJ, exV, eq_self, true_and, and_true, true_or, or_true, if_true, if_false, not_true, not_false_eq_true, false_and, and_false, decide_true, decide_false, bi_T, bi_F, bi_0, bi_1, bi_z, bft, n10, n01, Nat.reduceEqDiff, Nat.reduceLT, Nat.reduceAdd, Nat.reduceMul, reduceCtorEq]
        exact ih
      | true =>
      cases o2 : sOn S n (b + 1) with
      | false =>
        simp only [o2, Bool.and_false, Bool.false_and, exI, exJ, exV, eq_self, true_and, and_true, true_or, or_true, if_true, if_false, not_true, not_false_eq_true, false_and, and_false, decide_true, decide_false, bi_T, bi_F, bi_0, bi_1, bi_z, bft, n10, n01, Nat.reduceEqDiff, Nat.reduceLT, Nat.reduceAdd, Nat.reduceMul, reduceCtorEq] at ih
        simp (disch := omega) only [nlt, hb2, b_Mo_passed_39 hg2, b_Mo_passed_48, b_Mo_passed_51 hg2, b_Mo_passed_57, b_Mo_passed_91, b_Mo_passed_92, nsub, hs, c_mIsOn hg2 hB hM3, o1, o2, nadd, exI, exJ, exV, eq_self, true_and, and_true, true_or, or_true, if_true, if_false, not_true, not_false_eq_true, false_and, and_false, decide_true, decide_false, bi_T, bi_F, bi_0, bi_1, bi_z, bft, n10, n01, Nat.reduceEqDiff, Nat.reduceLT, Nat.reduceAdd, Nat.reduceMul, reduceCtorEq]
        exact ih
      | true =>
      by_cases e : whoS S LF n b = whoS S LF n (b + 1)
      · simp only [o1, o2, e, Bool.and_true, ne_eq, not_true, decide_false, Bool.and_false, exI, exJ, exV, eq_self, true_and, and_true, true_or, or_true, if_true, if_false, not_true, not_false_eq_true, false_and, and_false, decide_true, decide_false, bi_T, bi_F, bi_0, bi_1, bi_z, bft, n10, n01, Nat.reduceEqDiff, Nat.reduceLT, Nat.reduceAdd, Nat.reduceMul, reduceCtorEq] at ih
        simp (disch := omega) only [nlt, hb2, b_Mo_passed_39 hg2, b_Mo_passed_48, b_Mo_passed_51 hg2, b_Mo_passed_57, b_Mo_passed_60 hg2, nsub, hs, c_mIsOn hg2 hB hM3, o1, o2, nadd, nmul, nvi, ncl, e1, e2, e, exI, exJ, exV, eq_self, true_and, and_true, true_or, or_true, if_true, if_false, not_true, not_false_eq_true, false_and, and_false, decide_true, decide_false, bi_T, bi_F, bi_0, bi_1, bi_z, bft, n10, n01, Nat.reduceEqDiff, Nat.reduceLT, Nat.reduceAdd, Nat.reduceMul, reduceCtorEq]
        simp (disch := omega) only [b_Mo_passed_91, b_Mo_passed_92, nadd, exI, exJ, exV, eq_self, true_and, and_true, true_or, or_true, if_true, if_false, not_true, not_false_eq_true, false_and, and_false, decide_true, decide_false, bi_T, bi_F, bi_0, bi_1, bi_z, bft, n10, n01, Nat.reduceEqDiff, Nat.reduceLT, Nat.reduceAdd, Nat.reduceMul, reduceCtorEq]
        exact ih
      · simp only [o1, o2, e, Bool.and_true, ne_eq, not_false_eq_true, decide_true, Bool.and_false, exI, exJ, exV, eq_self, true_and, and_true, true_or, or_true, if_true, if_false, not_true, not_false_eq_true, false_and, and_false, decide_true, decide_false, bi_T, bi_F, bi_0, bi_1, bi_z, bft, n10, n01, Nat.reduceEqDiff, Nat.reduceLT, Nat.reduceAdd, Nat.reduceMul, reduceCtorEq] at ih
        simp (disch := omega) only [nlt, hb2, b_Mo_passed_39 hg2, b_Mo_passed_48, b_Mo_passed_51 hg2, b_Mo_passed_57, b_Mo_passed_60 hg2, nsub, hs, c_mIsOn hg2 hB hM3, o1, o2, nadd, nmul, nvi, ncl, e1, e2, neq, e, exI, exJ, exV, eq_self, true_and, and_true, true_or, or_true, if_true, if_false, not_true, not_false_eq_true, false_and, and_false, decide_true, decide_false, bi_T, bi_F, bi_0, bi_1, bi_z, bft, n10, n01, Nat.reduceEqDiff, Nat.reduceLT, Nat.reduceAdd, Nat.reduceMul, reduceCtorEq]
        simp (disch := omega) only [b_Mo_passed_87, b_Mo_passed_92, nadd, exI, exJ, exV, eq_self, true_and, and_true, true_or, or_true, if_true, if_false, not_true, not_false_eq_true, false_and, and_false, decide_true, decide_false, bi_T, bi_F, bi_0, bi_1, bi_z, bft, n10, n01, Nat.reduceEqDiff, Nat.reduceLT, Nat.reduceAdd, Nat.reduceMul, reduceCtorEq]
        exact ih
  by_cases z : lcS S LF < 1000000
  rotate_left
  · simp (disch := omega) only [b_Cp_passed_18, b_Cp_passed_21, z, exI, exJ, exV, eq_self, true_and, and_true, true_or, or_true, if_true, if_false, not_true, not_false_eq_true, false_and, and_false, decide_true, decide_false, bi_T, bi_F, bi_0, bi_1, bi_z, bft, n10, n01, Nat.reduceEqDiff, Nat.reduceLT, Nat.reduceAdd, Nat.reduceMul, reduceCtorEq]
    exact ⟨i2.2.1, i2.1.2.2.1, ref _ (by rw [if_neg z])⟩
  simp (disch := omega) only [b_Cp_passed_18, b_Cp_passed_23 hg2, z, exI, exJ, exV, eq_self, true_and, and_true, true_or, or_true, if_true, if_false, not_true, not_false_eq_true, false_and, and_false, decide_true, decide_false, bi_T, bi_F, bi_0, bi_1, bi_z, bft, n10, n01, Nat.reduceEqDiff, Nat.reduceLT, Nat.reduceAdd, Nat.reduceMul, reduceCtorEq]
  have cls : ∀ Q : aQ, a_call aTab aMX (d + 11) m_Planner_passesOf [.ref 44, .int (nI n)] (g2, I2, J2) Q = Q (some (.int (nI (psS S LF n 11)))) (g2, I2, J2) := by
    intro Q
    rw [e_Planner_passesOf, b_Planner_passesOf_0]
    refine dn (P := fun b => ∀ v4 v5, a_wp aTab aMX (d + 10) m_Planner_passesOf 4 [.ref 44, .int (nI n), .int (nI (psS S LF n b)), .int (nI (b + 1)), v4, v5] [] (g2, I2, J2) Q = Q (some (.int (nI (psS S LF n 11)))) (g2, I2, J2)) (n := 11) ?_ ?_ 0 (by omega) _ _
    · intro v4 v5
      rw [b_Planner_passesOf_4]
      simp (disch := omega) only [nlt, Nat.reduceAdd, Nat.lt_irrefl, b_Planner_passesOf_61, exI, exJ, exV, eq_self, true_and, and_true, true_or, or_true, if_true, if_false, not_true, not_false_eq_true, false_and, and_false, decide_true, decide_false, bi_T, bi_F, bi_0, bi_1, bi_z, bft, n10, n01, Nat.reduceEqDiff, Nat.reduceLT, Nat.reduceAdd, Nat.reduceMul, reduceCtorEq]
    · intro b hb ih v4 v5
      have w1 := who_4 (S := S) (LF := LF) (f := n) (b := b)
      have w2 := who_4 (S := S) (LF := LF) (f := n) (b := b + 1)
      rw [show psS S LF n (b + 1) = psS S LF n b + if sOn S n b && sOn S n (b + 1) && decide (whoS S LF n b ≠ whoS S LF n (b + 1)) then 1 else 0 from rfl] at ih
      rw [b_Planner_passesOf_4]
      have hb2 : b + 1 < 12 := by omega
      have hs : b + 1 - 1 = b := by omega
      cases o1 : sOn S n b with
      | false =>
        simp only [o1, Bool.false_and, exI, exJ, exV, eq_self, true_and, and_true, true_or, or_true, if_true, if_false, not_true, not_false_eq_true, false_and, and_false, decide_true, decide_false, bi_T, bi_F, bi_0, bi_1, bi_z, bft, n10, n01, Nat.reduceEqDiff, Nat.reduceLT, Nat.reduceAdd, Nat.reduceMul, reduceCtorEq] at ih
        simp (disch := omega) only [nlt, hb2, b_Planner_passesOf_10 hg2, b_Planner_passesOf_18 hg2, b_Planner_passesOf_26, b_Planner_passesOf_52, b_Planner_passesOf_53, nsub, hs, c_holderAt hg2 hS2 z f2, o1, nadd, exI, exJ, exV, eq_self, true_and, and_true, true_or, or_true, if_true, if_false, not_true, not_false_eq_true, false_and, and_false, decide_true, decide_false, bi_T, bi_F, bi_0, bi_1, bi_z, bft, n10, n01, Nat.reduceEqDiff, Nat.reduceLT, Nat.reduceAdd, Nat.reduceMul, reduceCtorEq]
        exact ih _ _
      | true =>
      cases o2 : sOn S n (b + 1) with
      | false =>
        simp only [o2, Bool.and_false, Bool.false_and, exI, exJ, exV, eq_self, true_and, and_true, true_or, or_true, if_true, if_false, not_true, not_false_eq_true, false_and, and_false, decide_true, decide_false, bi_T, bi_F, bi_0, bi_1, bi_z, bft, n10, n01, Nat.reduceEqDiff, Nat.reduceLT, Nat.reduceAdd, Nat.reduceMul, reduceCtorEq] at ih
        simp (disch := omega) only [nlt, hb2, b_Planner_passesOf_10 hg2, b_Planner_passesOf_18 hg2, b_Planner_passesOf_26, b_Planner_passesOf_35, b_Planner_passesOf_52, b_Planner_passesOf_53, nsub, hs, c_holderAt hg2 hS2 z f2, o1, o2, n_m1, nadd, exI, exJ, exV, eq_self, true_and, and_true, true_or, or_true, if_true, if_false, not_true, not_false_eq_true, false_and, and_false, decide_true, decide_false, bi_T, bi_F, bi_0, bi_1, bi_z, bft, n10, n01, Nat.reduceEqDiff, Nat.reduceLT, Nat.reduceAdd, Nat.reduceMul, reduceCtorEq]
        exact ih _ _
      | true =>
      by_cases e : whoS S LF n b = whoS S LF n (b + 1)
      · simp only [o1, o2, e, Bool.and_true, ne_eq, not_true, decide_false, Bool.and_false, exI, exJ, exV, eq_self, true_and, and_true, true_or, or_true, if_true, if_false, not_true, not_false_eq_true, false_and, and_false, decide_true, decide_false, bi_T, bi_F, bi_0, bi_1, bi_z, bft, n10, n01, Nat.reduceEqDiff, Nat.reduceLT, Nat.reduceAdd, Nat.reduceMul, reduceCtorEq] at ih
        simp (disch := omega) only [nlt, hb2, b_Planner_passesOf_10 hg2, b_Planner_passesOf_18 hg2, b_Planner_passesOf_26, b_Planner_passesOf_35, b_Planner_passesOf_41, b_Planner_passesOf_52, b_Planner_passesOf_53, nsub, hs, c_holderAt hg2 hS2 z f2, o1, o2, n_m1, e, nadd, exI, exJ, exV, eq_self, true_and, and_true, true_or, or_true, if_true, if_false, not_true, not_false_eq_true, false_and, and_false, decide_true, decide_false, bi_T, bi_F, bi_0, bi_1, bi_z, bft, n10, n01, Nat.reduceEqDiff, Nat.reduceLT, Nat.reduceAdd, Nat.reduceMul, reduceCtorEq]
        exact ih _ _
      · simp only [o1, o2, e, Bool.and_true, ne_eq, not_false_eq_true, decide_true, Bool.and_false, exI, exJ, exV, eq_self, true_and, and_true, true_or, or_true, if_true, if_false, not_true, not_false_eq_true, false_and, and_false, decide_true, decide_false, bi_T, bi_F, bi_0, bi_1, bi_z, bft, n10, n01, Nat.reduceEqDiff, Nat.reduceLT, Nat.reduceAdd, Nat.reduceMul, reduceCtorEq] at ih
        simp (disch := omega) only [nlt, hb2, b_Planner_passesOf_10 hg2, b_Planner_passesOf_18 hg2, b_Planner_passesOf_26, b_Planner_passesOf_35, b_Planner_passesOf_41, b_Planner_passesOf_48, b_Planner_passesOf_53, nsub, hs, c_holderAt hg2 hS2 z f2, o1, o2, n_m1, neq, e, nadd, exI, exJ, exV, eq_self, true_and, and_true, true_or, or_true, if_true, if_false, not_true, not_false_eq_true, false_and, and_false, decide_true, decide_false, bi_T, bi_F, bi_0, bi_1, bi_z, bft, n10, n01, Nat.reduceEqDiff, Nat.reduceLT, Nat.reduceAdd, Nat.reduceMul, reduceCtorEq]
        exact ih _ _
  simp (disch := omega) only [cls, b_Cp_passed_31, exI, exJ, exV, eq_self, true_and, and_true, true_or, or_true, if_true, if_false, not_true, not_false_eq_true, false_and, and_false, decide_true, decide_false, bi_T, bi_F, bi_0, bi_1, bi_z, bft, n10, n01, Nat.reduceEqDiff, Nat.reduceLT, Nat.reduceAdd, Nat.reduceMul, reduceCtorEq]
  exact ⟨i2.2.1, i2.1.2.2.1, ref _ (by rw [if_pos z])⟩
end HDR
