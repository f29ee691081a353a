/-! ===== holds, holdings, fewest, barred ===== -/
theorem hN_le {S : Nat → Nat → Nat} (hB : SB S) {LF : aLF} {b s hp : Nat} (hs : s &&& sOns S b = s) (hh : hp ≤ 3) : hN S LF hp b s ≤ 4096 := by
  have ol := ons_lt hB b
  have hs64 : s < 64 := by have := sub_le hs; omega
  have e : hN S LF hp b s = fb_ct (isH (fun h q => decide (q &&& s = q) && canS S LF h b q) hp s) 4096 := by
    unfold hN
    rw [← hn_codes hh hs64 (fun h _ => canS_0)]
    exact fb_ct_cong (fun c _ => isH_cong (fun h q _ hq _ => by rw [decide_eq_true hq, Bool.true_and]))
  rw [e]
  exact fb_ct_le _ _
theorem ms4 {S : Nat → Nat → Nat} {T W : Nat → Int32} (h : MS S T W) : W 4 = nI (S 10 2) := h.2.1 2 (by decide)
section HLD
variable {N : Nat} {X : Nat → Int32} {ow : Nat → Nat} {S : Nat → Nat → Nat} {LF : aLF} {g : aG} {I : Nat → Nat → Int32} {J : Nat → Nat → Int64} {Q : aQ} {d : Nat}
/-- what was reckoned has changed -/
theorem INV_ca {g' : aG} {ow' : Nat → Nat} {I' : Nat → Nat → Int32} {J' : Nat → Nat → Int64} (h : INV N X ow S LF g I J) (hG : GG N ow' g') (hr : ∀ a, a < 123 → ¬ (23 ≤ a ∧ a ≤ 86) → a ≠ 89 → ¬ (95 ≤ a ∧ a ≤ 121) → I' a = I a) (h89 : ∀ j, j = 1 ∨ j = 6 ∨ j = 8 ∨ j = 13 ∨ j = 61 → I' 89 j = I 89 j) (hIm : IMs g' I') (h100 : J' 100 = J 100) (hHC : HC S LF I' J') (h12 : I' 46 12 = nI 0) (hPR : I' 44 0 = nI 0 ∨ (I' 44 0 = nI 1 ∧ PR S LF I')) (hRC : RC S LF I') (hMC : MC S (I 14) g' I' J') : INV N X ow' S LF g' I' J' := by
  obtain ⟨-, h2, ⟨h3, h4, h5⟩, -, ⟨B, t, t1, t2, t3, t4, t5⟩, ⟨s1, s2, s3, s4, s5, s6⟩, -, h9⟩ := h
  have r : ∀ a, a < 23 ∨ (a = 87 ∨ a = 88 ∨ (90 ≤ a ∧ a ≤ 94) ∨ a = 122) → I' a = I a := fun a y => hr a (by omega) (by omega) (by omega) (by omega)
  have hW : I' 91 = I 91 := r 91 (by omega)
  refine ⟨hG, by rw [r 1 (by omega)]; exact h2, ⟨⟨fun a j y1 y2 => by rw [r a (by omega)]; exact h3.1 a j y1 y2, h3.2⟩, by rw [hW, r 14 (by omega)]; exact h4, by rw [hW]; exact LJ_cong (fun a y1 y2 => r a (by omega)) (fun _ _ => rfl) h5⟩, hIm, ⟨B, t, t1, t2, by rw [r 6 (by omega)]; exact t3, by rw [h89 8 (by omega)]; exact t4, fun i hi => by rw [r 22 (by omega), r 94 (by omega)]; exact t5 i hi⟩, ⟨by rw [r 6 (by omega), h89 6 (by omega)]; exact s1, by rw [r 6 (by omega), h89 13 (by omega)]; exact s2, by rw [r 6 (by omega), h89 1 (by omega)]; exact s3, by rw [r 6 (by omega), h89 61 (by omega)]; exact s4, by rw [r 87 (by omega), r 122 (by omega)]; exact s5, by rw [r 88 (by omega), r 90 (by omega)]; exact s6⟩, ⟨hHC, h12, hPR, hRC, by rw [r 14 (by omega)]; exact hMC⟩, ?_⟩
  unfold STA at h9 ⊢
  rw [r 2 (by omega), r 3 (by omega), r 4 (by omega), h100]; exact h9
def FH (I I' : Nat → Nat → Int32) : Prop := ∀ a j, a ∉ [34, 36, 38, 39, 40, 42, 43, 104] → ¬ (a = 89 ∧ (j = 0 ∨ j = 31 ∨ j = 34)) → I' a j = I a j
def FJ (J J' : Nat → Nat → Int64) : Prop := ∀ a j, a ∉ [35, 37, 102, 103] → ¬ (a = 89 ∧ (j = 32 ∨ j = 33)) → J' a j = J a j
theorem FH_rf : FH I I := fun _ _ _ _ => rfl
theorem FJ_rf : FJ J J := fun _ _ _ _ => rfl
theorem FH_tr {I2 I3 : Nat → Nat → Int32} (h : FH I I2) (h2 : FH I2 I3) : FH I I3 := fun a j y1 y2 => (h2 a j y1 y2).trans (h a j y1 y2)
theorem FJ_tr {J2 J3 : Nat → Nat → Int64} (h : FJ J J2) (h2 : FJ J2 J3) : FJ J J3 := fun a j y1 y2 => (h2 a j y1 y2).trans (h a j y1 y2)
theorem FH_f {I2 : Nat → Nat → Int32} {L : List Nat} (hL : L.all (fun a => [34, 36, 38, 39, 40, 42, 43, 104].contains a) = true) (h : Fr L I I2) : FH I I2 := fun a j y1 _ => by
  rw [Fr_w hL h a y1]
theorem FJ_f {J2 : Nat → Nat → Int64} {L : List Nat} (hL : L.all (fun a => [35, 37, 102, 103].contains a) = true) (h : Fr L J J2) : FJ J J2 := fun a j y1 _ => by
  rw [Fr_w hL h a y1]
theorem FH_0 {v : Int32} : FH I (u2 I 89 0 v) := fun a j _ y2 => u2_n (by omega)
theorem FH_x {I2 : Nat → Nat → Int32} (h : Xh I I2) : FH I I2 := fun a j y1 y2 => h a j (fun z => y1 (by rw [z]; decide)) (by omega)
theorem FJ_x {J2 : Nat → Nat → Int64} (h : Xj J J2) : FJ J J2 := fun a j y1 y2 => h a j (fun z => y1 (by rw [z]; decide)) (fun z => y1 (by rw [z]; decide)) y2
theorem FH_r {I2 : Nat → Nat → Int32} (h : FH I I2) {a : Nat} (h1 : [34, 36, 38, 39, 40, 42, 43, 104].contains a = false) (h2 : a ≠ 89) : I2 a = I a := funext (fun j => h a j (fun z => by rw [List.contains_iff_mem.2 z] at h1; cases h1) (by omega))
theorem FH_8 {I2 : Nat → Nat → Int32} (h : FH I I2) {j : Nat} (h2 : ¬ (j = 0 ∨ j = 31 ∨ j = 34)) : I2 89 j = I 89 j := h 89 j (by decide) (by omega)
theorem FJ_r {J2 : Nat → Nat → Int64} (h : FJ J J2) {a : Nat} (h1 : [35, 37, 102, 103].contains a = false) (h2 : a ≠ 89) : J2 a = J a := funext (fun j => h a j (fun z => by rw [List.contains_iff_mem.2 z] at h1; cases h1) (by omega))
theorem cnt_no {L : List Nat} {a : Nat} (h : ∀ b ∈ L, b ≠ a) : L.contains a = false := by
  cases q : L.contains a with
  | false => rfl
  | true => exact absurd rfl (h a (List.contains_iff_mem.1 q))
theorem INV_fh {I' : Nat → Nat → Int32} {J' : Nat → Nat → Int64} (h : INV N X ow S LF g I J) (hI : FH I I') (hJ : FJ J J') (hHC : HC S LF I' J') : INV N X ow S LF g I' J' := by
  obtain ⟨c1, c2, c3, c4, c5⟩ := h.2.2.2.2.2.2.1
  have r : ∀ a, ¬ (34 ≤ a ∧ a ≤ 43) → a ≠ 104 → a ≠ 89 → I' a = I a := fun a y1 y2 y3 => FH_r hI (cnt_no (fun b hb => by simp at hb; omega)) y3
  have rj : ∀ a, ¬ (35 ≤ a ∧ a ≤ 37) → ¬ (102 ≤ a ∧ a ≤ 103) → a ≠ 89 → J' a = J a := fun a y1 y2 y3 => FJ_r hJ (cnt_no (fun b hb => by simp at hb; omega)) y3
  refine INV_ca h h.1 (fun a y1 y2 y3 y4 => r a (by omega) (by omega) y3) (fun j hj => FH_8 hI (by omega)) (IMs_c h.1.2.2.2.2.2.1 (r 92 (by decide) (by decide) (by decide)) (r 93 (by decide) (by decide) (by decide)) (fun a y1 _ _ => r a (by omega) (by omega) (by omega)) h.2.2.2.1) (rj 100 (by decide) (by decide) (by decide)) hHC (by rw [r 46 (by decide) (by decide) (by decide)]; exact c2) ?_ ?_ (MC_c h.1.2.2.2.1 (fun a y1 y2 => r a (by omega) (by omega) (by omega)) ⟨rj 49 (by decide) (by decide) (by decide), rj 50 (by decide) (by decide) (by decide)⟩ (fun a y1 _ _ => ⟨r a (by omega) (by omega) (by omega), rj a (by omega) (by omega) (by omega)⟩) c5)
  · unfold PR at c3 ⊢
    rw [r 44 (by decide) (by decide) (by decide), r 47 (by decide) (by decide) (by decide)]; exact c3
  · unfold RC LR at c4 ⊢
    rw [FH_8 hI (by decide), FH_8 hI (by decide), FH_8 hI (by decide), r 112 (by decide) (by decide) (by decide)]; exact c4
theorem HC_x {I I2 : Nat → Nat → Int32} {J J2 : Nat → Nat → Int64} (h1 : FH I I2) (h2 : I2 38 = I 38) (h3 : I2 39 = I 39) (h4 : J2 37 = J 37) (h : HC S LF I J) : HC S LF I2 J2 := HC_c h2 h3 h4 h
theorem HB_of (h : HC S LF I J) {b : Nat} (hb : b < 12) (h1 : I 39 b = nI 1) : HB S LF I J b := by
  rcases h b hb with w | w
  · rw [h1] at w; exact absurd w (by decide)
  · exact w.2
theorem m_holds {x b y : Int32} (h : INV N X ow S LF g I J) : BOTH N X (d + 7) m_Cp_holds m_Mo_holds [.int x, .int b, .int y] (g, I, J) := by
  have hg := h.1.1
  have hS := h.2.2.1.1
  have hM := hM0 h
  have hB := hS.2
  have h7 := sb7 hB 0
  have l4 : (x < nI 4) = ¬ nI 3 < x := ltS (n := 3) (by decide)
  have l64 : (y < nI 64) = ¬ nI 63 < y := ltS (n := 63) (by decide)
  by_cases x0 : x < nI 0
  · refine both_t h (-1) (fun Q hq => ?_) (fun Q hq => ?_)
    · simp (disch := omega) only [e_Cp_holds, b_Cp_holds_0, b_Cp_holds_4, b_Cp_holds_9, b_Cp_holds_13, b_Cp_holds_16, b_Cp_holds_20, b_Cp_holds_26, b_Cp_holds_28 hg, b_Cp_holds_37, b_Cp_holds_43, b_Cp_holds_45 hg, b_Cp_holds_53 hg, b_Cp_holds_63, b_Cp_holds_66, b_Cp_holds_70, b_Cp_holds_71, x0, exI, exJ, exV, eq_self, true_and, and_true, true_or, or_true, if_true, if_false, not_true, not_false_eq_true, false_and, and_false, decide_true, decide_false, bi_T, bi_F, bi_0, bi_1, bi_z, bft, n10, n01, Nat.reduceEqDiff, Nat.reduceLT, Nat.reduceAdd, Nat.reduceMul, reduceCtorEq]; exact hq
    · simp (disch := omega) only [e_Mo_holds, b_Mo_holds_0 hg, b_Mo_holds_14, b_Mo_holds_17, b_Mo_holds_21, b_Mo_holds_24, b_Mo_holds_33, b_Mo_holds_36, b_Mo_holds_42, b_Mo_holds_45, b_Mo_holds_49, b_Mo_holds_50 hg, b_Mo_holds_53, b_Mo_holds_59, b_Mo_holds_61 hg, b_Mo_holds_68, b_Mo_holds_71, b_Mo_holds_75, b_Mo_holds_76, c_inI, x0, exI, exJ, exV, eq_self, true_and, and_true, true_or, or_true, if_true, if_false, not_true, not_false_eq_true, false_and, and_false, decide_true, decide_false, bi_T, bi_F, bi_0, bi_1, bi_z, bft, n10, n01, Nat.reduceEqDiff, Nat.reduceLT, Nat.reduceAdd, Nat.reduceMul, reduceCtorEq]; exact hq
  by_cases x1 : nI 3 < x
  · refine both_t h (-1) (fun Q hq => ?_) (fun Q hq => ?_)
    · simp (disch := omega) only [e_Cp_holds, b_Cp_holds_0, b_Cp_holds_4, b_Cp_holds_9, b_Cp_holds_13, b_Cp_holds_16, b_Cp_holds_20, b_Cp_holds_26, b_Cp_holds_28 hg, b_Cp_holds_37, b_Cp_holds_43, b_Cp_holds_45 hg, b_Cp_holds_53 hg, b_Cp_holds_63, b_Cp_holds_66, b_Cp_holds_70, b_Cp_holds_71, l4, x0, x1, exI, exJ, exV, eq_self, true_and, and_true, true_or, or_true, if_true, if_false, not_true, not_false_eq_true, false_and, and_false, decide_true, decide_false, bi_T, bi_F, bi_0, bi_1, bi_z, bft, n10, n01, Nat.reduceEqDiff, Nat.reduceLT, Nat.reduceAdd, Nat.reduceMul, reduceCtorEq]; exact hq
    · simp (disch := omega) only [e_Mo_holds, b_Mo_holds_0 hg, b_Mo_holds_14, b_Mo_holds_17, b_Mo_holds_21, b_Mo_holds_24, b_Mo_holds_33, b_Mo_holds_36, b_Mo_holds_42, b_Mo_holds_45, b_Mo_holds_49, b_Mo_holds_50 hg, b_Mo_holds_53, b_Mo_holds_59, b_Mo_holds_61 hg, b_Mo_holds_68, b_Mo_holds_71, b_Mo_holds_75, b_Mo_holds_76, c_inI, x0, x1, exI, exJ, exV, eq_self, true_and, and_true, true_or, or_true, if_true, if_false, not_true, not_false_eq_true, false_and, and_false, decide_true, decide_false, bi_T, bi_F, bi_0, bi_1, bi_z, bft, n10, n01, Nat.reduceEqDiff, Nat.reduceLT, Nat.reduceAdd, Nat.reduceMul, reduceCtorEq]; exact hq
  cases hb : beI b with
  | false =>
    refine both_t h (-1) (fun Q hq => ?_) (fun Q hq => ?_)
    · simp (disch := omega) only [e_Cp_holds, b_Cp_holds_0, b_Cp_holds_4, b_Cp_holds_9, b_Cp_holds_13, b_Cp_holds_16, b_Cp_holds_20, b_Cp_holds_26, b_Cp_holds_28 hg, b_Cp_holds_37, b_Cp_holds_43, b_Cp_holds_45 hg, b_Cp_holds_53 hg, b_Cp_holds_63, b_Cp_holds_66, b_Cp_holds_70, b_Cp_holds_71, l4, x0, x1, c_isBeat, hb, exI, exJ, exV, eq_self, true_and, and_true, true_or, or_true, if_true, if_false, not_true, not_false_eq_true, false_and, and_false, decide_true, decide_false, bi_T, bi_F, bi_0, bi_1, bi_z, bft, n10, n01, Nat.reduceEqDiff, Nat.reduceLT, Nat.reduceAdd, Nat.reduceMul, reduceCtorEq]; exact hq
    · simp (disch := omega) only [e_Mo_holds, b_Mo_holds_0 hg, b_Mo_holds_14, b_Mo_holds_17, b_Mo_holds_21, b_Mo_holds_24, b_Mo_holds_33, b_Mo_holds_36, b_Mo_holds_42, b_Mo_holds_45, b_Mo_holds_49, b_Mo_holds_50 hg, b_Mo_holds_53, b_Mo_holds_59, b_Mo_holds_61 hg, b_Mo_holds_68, b_Mo_holds_71, b_Mo_holds_75, b_Mo_holds_76, c_inI, x0, x1, c_mIsBeat, hb, exI, exJ, exV, eq_self, true_and, and_true, true_or, or_true, if_true, if_false, not_true, not_false_eq_true, false_and, and_false, decide_true, decide_false, bi_T, bi_F, bi_0, bi_1, bi_z, bft, n10, n01, Nat.reduceEqDiff, Nat.reduceLT, Nat.reduceAdd, Nat.reduceMul, reduceCtorEq]; exact hq
  | true =>
  by_cases y0 : y < nI 0
  · refine both_t h (-1) (fun Q hq => ?_) (fun Q hq => ?_)
    · simp (disch := omega) only [e_Cp_holds, b_Cp_holds_0, b_Cp_holds_4, b_Cp_holds_9, b_Cp_holds_13, b_Cp_holds_16, b_Cp_holds_20, b_Cp_holds_26, b_Cp_holds_28 hg, b_Cp_holds_37, b_Cp_holds_43, b_Cp_holds_45 hg, b_Cp_holds_53 hg, b_Cp_holds_63, b_Cp_holds_66, b_Cp_holds_70, b_Cp_holds_71, l4, x0, x1, c_isBeat, hb, y0, exI, exJ, exV, eq_self, true_and, and_true, true_or, or_true, if_true, if_false, not_true, not_false_eq_true, false_and, and_false, decide_true, decide_false, bi_T, bi_F, bi_0, bi_1, bi_z, bft, n10, n01, Nat.reduceEqDiff, Nat.reduceLT, Nat.reduceAdd, Nat.reduceMul, reduceCtorEq]; exact hq
    · simp (disch := omega) only [e_Mo_holds, b_Mo_holds_0 hg, b_Mo_holds_14, b_Mo_holds_17, b_Mo_holds_21, b_Mo_holds_24, b_Mo_holds_33, b_Mo_holds_36, b_Mo_holds_42, b_Mo_holds_45, b_Mo_holds_49, b_Mo_holds_50 hg, b_Mo_holds_53, b_Mo_holds_59, b_Mo_holds_61 hg, b_Mo_holds_68, b_Mo_holds_71, b_Mo_holds_75, b_Mo_holds_76, c_inI, x0, x1, c_mIsBeat, hb, y0, exI, exJ, exV, eq_self, true_and, and_true, true_or, or_true, if_true, if_false, not_true, not_false_eq_true, false_and, and_false, decide_true, decide_false, bi_T, bi_F, bi_0, bi_1, bi_z, bft, n10, n01, Nat.reduceEqDiff, Nat.reduceLT, Nat.reduceAdd, Nat.reduceMul, reduceCtorEq]; exact hq
  by_cases y1 : nI 63 < y
  · refine both_t h (-1) (fun Q hq => ?_) (fun Q hq => ?_)
    · simp (disch := omega) only [e_Cp_holds, b_Cp_holds_0, b_Cp_holds_4, b_Cp_holds_9, b_Cp_holds_13, b_Cp_holds_16, b_Cp_holds_20, b_Cp_holds_26, b_Cp_holds_28 hg, b_Cp_holds_37, b_Cp_holds_43, b_Cp_holds_45 hg, b_Cp_holds_53 hg, b_Cp_holds_63, b_Cp_holds_66, b_Cp_holds_70, b_Cp_holds_71, l4, l64, x0, x1, c_isBeat, hb, y0, y1, exI, exJ, exV, eq_self, true_and, and_true, true_or, or_true, if_true, if_false, not_true, not_false_eq_true, false_and, and_false, decide_true, decide_false, bi_T, bi_F, bi_0, bi_1, bi_z, bft, n10, n01, Nat.reduceEqDiff, Nat.reduceLT, Nat.reduceAdd, Nat.reduceMul, reduceCtorEq]; exact hq
    · simp (disch := omega) only [e_Mo_holds, b_Mo_holds_0 hg, b_Mo_holds_14, b_Mo_holds_17, b_Mo_holds_21, b_Mo_holds_24, b_Mo_holds_33, b_Mo_holds_36, b_Mo_holds_42, b_Mo_holds_45, b_Mo_holds_49, b_Mo_holds_50 hg, b_Mo_holds_53, b_Mo_holds_59, b_Mo_holds_61 hg, b_Mo_holds_68, b_Mo_holds_71, b_Mo_holds_75, b_Mo_holds_76, c_inI, x0, x1, c_mIsBeat, hb, y0, y1, exI, exJ, exV, eq_self, true_and, and_true, true_or, or_true, if_true, if_false, not_true, not_false_eq_true, false_and, and_false, decide_true, decide_false, bi_T, bi_F, bi_0, bi_1, bi_z, bft, n10, n01, Nat.reduceEqDiff, Nat.reduceLT, Nat.reduceAdd, Nat.reduceMul, reduceCtorEq]; exact hq
  obtain ⟨hh, rfl, -, hh1⟩ := irng (by decide) (by decide) x0 x1
  obtain ⟨s, rfl, -, hs1⟩ := irng (by decide) (by decide) y0 y1
  obtain ⟨k, hk, rfl⟩ := beI_of hb
  have ol := ons_lt hB k
  by_cases q : s &&& sOns S k = s
  rotate_left
  · refine both_t h (-1) (fun Q hq => ?_) (fun Q hq => ?_)
    · simp (disch := omega) only [e_Cp_holds, b_Cp_holds_0, b_Cp_holds_4, b_Cp_holds_9, b_Cp_holds_13, b_Cp_holds_16, b_Cp_holds_20, b_Cp_holds_26, b_Cp_holds_28 hg, b_Cp_holds_37, b_Cp_holds_43, b_Cp_holds_45 hg, b_Cp_holds_53 hg, b_Cp_holds_63, b_Cp_holds_66, b_Cp_holds_70, b_Cp_holds_71, l4, l64, x0, x1, c_isBeat, hb, y0, y1, c_onBits hg hS, sub_eq, q, exI, exJ, exV, eq_self, true_and, and_true, true_or, or_true, if_true, if_false, not_true, not_false_eq_true, false_and, and_false, decide_true, decide_false, bi_T, bi_F, bi_0, bi_1, bi_z, bft, n10, n01, Nat.reduceEqDiff, Nat.reduceLT, Nat.reduceAdd, Nat.reduceMul, reduceCtorEq]; exact hq
    · simp (disch := omega) only [e_Mo_holds, b_Mo_holds_0 hg, b_Mo_holds_14, b_Mo_holds_17, b_Mo_holds_21, b_Mo_holds_24, b_Mo_holds_33, b_Mo_holds_36, b_Mo_holds_42, b_Mo_holds_45, b_Mo_holds_49, b_Mo_holds_50 hg, b_Mo_holds_53, b_Mo_holds_59, b_Mo_holds_61 hg, b_Mo_holds_68, b_Mo_holds_71, b_Mo_holds_75, b_Mo_holds_76, c_inI, x0, x1, c_mIsBeat, hb, y0, y1, c_mOnBits hg hB hM, sub_eq, q, exI, exJ, exV, eq_self, true_and, and_true, true_or, or_true, if_true, if_false, not_true, not_false_eq_true, false_and, and_false, decide_true, decide_false, bi_T, bi_F, bi_0, bi_1, bi_z, bft, n10, n01, Nat.reduceEqDiff, Nat.reduceLT, Nat.reduceAdd, Nat.reduceMul, reduceCtorEq]; exact hq
  unfold BOTH
  simp (disch := omega) only [e_Cp_holds, b_Cp_holds_0, b_Cp_holds_4, b_Cp_holds_9, b_Cp_holds_13, b_Cp_holds_16, b_Cp_holds_20, b_Cp_holds_28 hg, b_Cp_holds_37, b_Cp_holds_45 hg, l4, l64, x0, x1, c_isBeat, hb, y0, y1, c_onBits hg hS, sub_eq, q, exI, exJ, exV, eq_self, true_and, and_true, true_or, or_true, if_true, if_false, not_true, not_false_eq_true, false_and, and_false, decide_true, decide_false, bi_T, bi_F, bi_0, bi_1, bi_z, bft, n10, n01, Nat.reduceEqDiff, Nat.reduceLT, Nat.reduceAdd, Nat.reduceMul, reduceCtorEq]
  refine c_lookAt hg hS h.2.2.1.2.2 h.2.2.2.2.2.2.1.1 hk (fun I1 J1 a1 a2 a3 a4 a5 => ?_)
  simp only [exV, true_and]
  have f1 : FH I I1 := FH_f (by decide) a1
  have j1 : FJ J J1 := FJ_f (by decide) a2
  have i1 := INV_fh h f1 j1 a3
  have hM1 := hM0 i1
  have fin : ∀ v : Nat, v = (canS S LF hh k s).toNat → (∃ i : Int32, some (Value.int (nI v)) = some (.int i) ∧ (g, I1, J1).2.1 1 = X ∧ gN (g, I1, J1).1 1 = N ∧ a_call aTab aMX (d + 7) m_Mo_holds [.ref 89, .int (nI hh), .int (nI k), .int (nI s)] (g, I1, J1) (fun v3 h3 => ∃ i3 : Int32, v3 = some (.int i3) ∧ i = i3 ∧ INVx N X h3)) := by
    intro v hv
    refine ⟨_, rfl, i1.2.1, i1.1.2.2.1, ?_⟩
    simp (disch := omega) only [e_Mo_holds, b_Mo_holds_0 hg, b_Mo_holds_14, b_Mo_holds_17, b_Mo_holds_21, b_Mo_holds_24, b_Mo_holds_33, b_Mo_holds_36, b_Mo_holds_42, b_Mo_holds_45, b_Mo_holds_49, b_Mo_holds_50 hg, b_Mo_holds_53, b_Mo_holds_61 hg, c_inI, x0, x1, c_mIsBeat, hb, y0, y1, c_mOnBits hg hB hM1, sub_eq, q, exI, exJ, exV, eq_self, true_and, and_true, true_or, or_true, if_true, if_false, not_true, not_false_eq_true, false_and, and_false, decide_true, decide_false, bi_T, bi_F, bi_0, bi_1, bi_z, bft, n10, n01, Nat.reduceEqDiff, Nat.reduceLT, Nat.reduceAdd, Nat.reduceMul, reduceCtorEq]
    refine c_mCanHold hg hB hM1 (sc := I1) (by rw [u2_r (by decide)]; exact i1.2.2.1.2.2) (by omega) hk q (fun I2 J2 b1 b2 => ?_)
    have i2 := INV_fh i1 (FH_tr FH_0 (FH_x (Xh_t b1))) (FJ_x b2) (HC_c (by rw [Xt_r b1 (by decide), u2_r (by decide)]) (by rw [Xt_r b1 (by decide), u2_r (by decide)]) (Xj_r b2 (by decide) (by decide) (by decide)) a3)
    rw [hv]
    cases canS S LF hh k s with
    | false => simp (disch := omega) only [b_Mo_holds_68, b_Mo_holds_75, b_Mo_holds_76, exI, exJ, exV, eq_self, true_and, and_true, true_or, or_true, if_true, if_false, not_true, not_false_eq_true, false_and, and_false, decide_true, decide_false, bi_T, bi_F, bi_0, bi_1, bi_z, bft, n10, n01, Nat.reduceEqDiff, Nat.reduceLT, Nat.reduceAdd, Nat.reduceMul, reduceCtorEq, Bool.toNat_false]; exact INVx_i i2
    | true => simp (disch := omega) only [b_Mo_holds_68, b_Mo_holds_71, b_Mo_holds_76, exI, exJ, exV, eq_self, true_and, and_true, true_or, or_true, if_true, if_false, not_true, not_false_eq_true, false_and, and_false, decide_true, decide_false, bi_T, bi_F, bi_0, bi_1, bi_z, bft, n10, n01, Nat.reduceEqDiff, Nat.reduceLT, Nat.reduceAdd, Nat.reduceMul, reduceCtorEq, Bool.toNat_true]; exact INVx_i i2
  have hHB := HB_of a3 hk a5
  cases qc : canS S LF hh k s with
  | false =>
    have := fin 0 (by rw [qc]; rfl)
    simp (disch := omega) only [b_Cp_holds_53 hg, b_Cp_holds_63, b_Cp_holds_70, b_Cp_holds_71, c_hCanHold hg hk (show hh < 4 by omega) (show s < 64 by omega) hHB, qc, bi_F, if_true, exI, eq_self]
    simp only [exI] at this
    exact this
  | true =>
    have := fin 1 (by rw [qc]; rfl)
    simp (disch := omega) only [b_Cp_holds_53 hg, b_Cp_holds_63, b_Cp_holds_66, b_Cp_holds_71, c_hCanHold hg hk (show hh < 4 by omega) (show s < 64 by omega) hHB, qc, bi_T, n10, if_false, exI]
    simp only [exI] at this
    exact this
theorem m_holdings {b : Int32} (h : INV N X ow S LF g I J) : BOTH N X (d + 8) m_Cp_holdings m_Mo_holdings [.int b] (g, I, J) := by
  have hg := h.1.1
  have hS := h.2.2.1.1
  have hM := hM0 h
  have hB := hS.2
  have ht := sb10 hB
  cases hb : beI b with
  | false =>
    refine both_t h (-1) (fun Q hq => ?_) (fun Q hq => ?_)
    · simp (disch := omega) only [e_Cp_holdings, b_Cp_holdings_0, b_Cp_holdings_4, b_Cp_holdings_7, b_Cp_holdings_9 hg, b_Cp_holdings_17 hg, b_Cp_holdings_34, c_isBeat, hb, exI, exJ, exV, eq_self, true_and, and_true, true_or, or_true, if_true, if_false, not_true, not_false_eq_true, false_and, and_false, decide_true, decide_false, bi_T, bi_F, bi_0, bi_1, bi_z, bft, n10, n01, Nat.reduceEqDiff, Nat.reduceLT, Nat.reduceAdd, Nat.reduceMul, reduceCtorEq]; exact hq
    · simp (disch := omega) only [e_Mo_holdings, b_Mo_holdings_0 hg, b_Mo_holdings_9, b_Mo_holdings_12 hg, b_Mo_holdings_19 hg, b_Mo_holdings_24 hg, b_Mo_holdings_27, b_Mo_holdings_30, b_Mo_holdings_31, c_mIsBeat, hb, exI, exJ, exV, eq_self, true_and, and_true, true_or, or_true, if_true, if_false, not_true, not_false_eq_true, false_and, and_false, decide_true, decide_false, bi_T, bi_F, bi_0, bi_1, bi_z, bft, n10, n01, Nat.reduceEqDiff, Nat.reduceLT, Nat.reduceAdd, Nat.reduceMul, reduceCtorEq]; exact hq
  | true =>
  obtain ⟨k, hk, rfl⟩ := beI_of hb
  unfold BOTH
  simp (disch := omega) only [e_Cp_holdings, b_Cp_holdings_0, b_Cp_holdings_4, b_Cp_holdings_9 hg, c_isBeat, hb, exI, exJ, exV, eq_self, true_and, and_true, true_or, or_true, if_true, if_false, not_true, not_false_eq_true, false_and, and_false, decide_true, decide_false, bi_T, bi_F, bi_0, bi_1, bi_z, bft, n10, n01, Nat.reduceEqDiff, Nat.reduceLT, Nat.reduceAdd, Nat.reduceMul, reduceCtorEq]
  refine c_lookAt hg hS h.2.2.1.2.2 h.2.2.2.2.2.2.1.1 hk (fun I1 J1 a1 a2 a3 a4 a5 => ?_)
  simp only [exV, true_and]
  have f1 : FH I I1 := FH_f (by decide) a1
  have j1 : FJ J J1 := FJ_f (by decide) a2
  have i1 := INV_fh h f1 j1 a3
  simp (disch := omega) only [b_Cp_holdings_17 hg, ncl, cs10 i1.2.2.1.1]
  refine c_waysOfAll hg hB hk ht.2.2.2.1 (HB_of a3 hk a5) (fun I2 b1 => ?_)
  simp (disch := omega) only [b_Cp_holdings_34, exI, exJ, exV, eq_self, true_and, and_true, true_or, or_true, if_true, if_false, not_true, not_false_eq_true, false_and, and_false, decide_true, decide_false, bi_T, bi_F, bi_0, bi_1, bi_z, bft, n10, n01, Nat.reduceEqDiff, Nat.reduceLT, Nat.reduceAdd, Nat.reduceMul, reduceCtorEq]
  have i2 := INV_fh i1 (FH_f (by decide) b1) FJ_rf (HC_c (Fr_at b1 _ rfl) (Fr_at b1 _ rfl) rfl a3)
  have hM2 := hM0 i2
  refine ⟨i2.2.1, i2.1.2.2.1, ?_⟩
  simp (disch := omega) only [e_Mo_holdings, b_Mo_holdings_0 hg, b_Mo_holdings_9, b_Mo_holdings_12 hg, b_Mo_holdings_19 hg, b_Mo_holdings_24 hg, c_mIsBeat, hb, c_mOnBits hg hB hM2, c_term hg, ms4 hM2, exI, exJ, exV, eq_self, true_and, and_true, true_or, or_true, if_true, if_false, not_true, not_false_eq_true, false_and, and_false, decide_true, decide_false, bi_T, bi_F, bi_0, bi_1, bi_z, bft, n10, n01, Nat.reduceEqDiff, Nat.reduceLT, Nat.reduceAdd, Nat.reduceMul, reduceCtorEq]
  refine c_holdingsOf hg hB hM2 (sc := I2) (by rw [u2_r (by decide)]; exact i2.2.2.1.2.2) hk (Nat.and_self _) ht.2.2.2.1 (fun I3 J3 c1 c2 => ?_)
  simp (disch := omega) only [b_Mo_holdings_27, b_Mo_holdings_31, exI, exJ, exV, eq_self, true_and, and_true, true_or, or_true, if_true, if_false, not_true, not_false_eq_true, false_and, and_false, decide_true, decide_false, bi_T, bi_F, bi_0, bi_1, bi_z, bft, n10, n01, Nat.reduceEqDiff, Nat.reduceLT, Nat.reduceAdd, Nat.reduceMul, reduceCtorEq]
  refine INVx_i (INV_fh i2 (FH_tr FH_0 (FH_x c1)) (FJ_x c2) (HC_c ?_ ?_ (Xj_r c2 (by decide) (by decide) (by decide)) i2.2.2.2.2.2.2.1.1))
  · rw [Xh_r c1 (by decide) (by decide), u2_r (by decide)]
  · rw [Xh_r c1 (by decide) (by decide), u2_r (by decide)]
end HLD
