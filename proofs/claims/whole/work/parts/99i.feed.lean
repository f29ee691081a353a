/-! ===== the tape ===== -/
def byt (x : Int32) (k : Nat) : Nat := (x >>> (nI k &&& 31)).toBitVec.toNat % 256
theorem byt_r (x : Int32) (k : Nat) : (x >>> (nI k &&& 31)) &&& nI 255 = nI (byt x k) := by
  have h : ∀ y : Int32, y = nI y.toBitVec.toNat := fun y => nI_ext (by rw [ni_bv, BitVec.ofNat_toNat, BitVec.setWidth_eq])
  unfold byt
  generalize x >>> (nI k &&& 31) = y
  conv => lhs; rw [h y]
  rw [nand, show (255 : Nat) = 2 ^ 8 - 1 from rfl, Nat.and_two_pow_sub_one_eq_mod]
theorem byt_le (x : Int32) (k : Nat) : byt x k ≤ 255 := by unfold byt; omega
theorem byt_u (x : Int32) {k : Nat} (hk : k ≤ 24) : (x.toUInt32 >>> ((nI k).toUInt32 &&& Int32.toUInt32 31)).toInt32 &&& nI 255 = nI (byt x k) := by
  rw [← byt_r]
  apply b_ext
  intro i hi
  rw [b_and, b_and, b_sshr k (by omega) x hi, bt_nI hi]
  by_cases h : i < 8
  · have e : bt ((x.toUInt32 >>> ((nI k).toUInt32 &&& Int32.toUInt32 31)).toInt32) i = bt x (k + i) := by
      have h2 : ∀ y : Int32, y = nI y.toBitVec.toNat := fun y => nI_ext (by rw [ni_bv, BitVec.ofNat_toNat, BitVec.setWidth_eq])
      rw [show (x.toUInt32 >>> ((nI k).toUInt32 &&& Int32.toUInt32 31)).toInt32 = j_u x k from rfl]
      have hx := h2 x
      generalize hn : x.toBitVec.toNat = n at hx
      have hl : n < 2 ^ 32 := hn ▸ x.toBitVec.isLt
      rw [hx, j_uN hl (by omega), bt_nI hi, bt_nI (by omega), Nat.testBit_div_two_pow, Nat.add_comm]
    rw [e, if_pos (by omega)]
  · have : (255 : Nat).testBit i = false := Nat.testBit_lt_two_pow (show 255 < 2 ^ i from Nat.lt_of_lt_of_le (by decide : 255 < 2 ^ 8) (Nat.pow_le_pow_right (by decide) (by omega)))
    rw [this, Bool.and_false, Bool.and_false]
def TPc (r a f : Nat) (B : Nat → Nat) (t : Nat) (I : Nat → Nat → Int32) : Prop := I a f = nI t ∧ ∀ i, i < t → I r i = nI (B i)
def ad (B : Nat → Nat) (t v : Nat) : Nat → Nat := fun i => if i = t then v else B i
def fd4 (B : Nat → Nat) (t : Nat) (x : Int32) : Nat → Nat := ad (ad (ad (ad B t (byt x 24)) (t + 1) (byt x 16)) (t + 2) (byt x 8)) (t + 3) (byt x 0)
theorem ad_le {B : Nat → Nat} {t v : Nat} (h : ∀ i, B i ≤ 255) (hv : v ≤ 255) : ∀ i, ad B t v i ≤ 255 := fun i => by unfold ad; split <;> first | exact hv | exact h i
theorem fd4_le {B : Nat → Nat} {t : Nat} {x : Int32} (h : ∀ i, B i ≤ 255) : ∀ i, fd4 B t x i ≤ 255 := ad_le (ad_le (ad_le (ad_le h (byt_le _ _)) (byt_le _ _)) (byt_le _ _)) (byt_le _ _)
theorem TPc_s {r a f t v : Nat} {B : Nat → Nat} {I : Nat → Nat → Int32} (hra : r ≠ a) (h : TPc r a f B t I) : TPc r a f (ad B t v) (t + 1) (u2 (u2 I r t (nI v)) a f (u2 I r t (nI v) a f + nI 1)) := by
  refine ⟨?_, fun i hi => ?_⟩
  · rw [u2_s, u2_a (Ne.symm hra), h.1, nadd]
  · rw [u2_a hra]
    by_cases q : i = t
    · rw [q, u2_s]; unfold ad; rw [if_pos rfl]
    · rw [u2_k q, h.2 i (by omega)]; unfold ad; rw [if_neg q]
section FED
variable {N : Nat} {X : Nat → Int32} {ow : Nat → Nat} {S : Nat → Nat → Nat} {LF : aLF} {g : aG} {I : Nat → Nat → Int32} {J : Nat → Nat → Int64} {Q : aQ} {d : Nat} {B : Nat → Nat} {t : Nat}
def FRt (r a f : Nat) (I I' : Nat → Nat → Int32) : Prop := ∀ b j, b ≠ r → ¬ (b = a ∧ j = f) → I' b j = I b j
theorem FRt_t {r a f : Nat} {I1 I2 I3 : Nat → Nat → Int32} (h1 : FRt r a f I1 I2) (h2 : FRt r a f I2 I3) : FRt r a f I1 I3 := fun b j y1 y2 => by rw [h2 b j y1 y2, h1 b j y1 y2]
theorem FRt_s {r a f t : Nat} {v w : Int32} : FRt r a f I (u2 (u2 I r t v) a f w) := fun b j y1 y2 => by
  rw [show u2 (u2 I r t v) a f w b j = u2 I r t v b j from if_neg (by omega), u2_a y1]
theorem w_word (hg : Geo g) {x : Int32} {k : Nat} (hk : k ≤ 24) (h : TPc 22 6 11 B t I) (ht : t < 400) (hQ : ∀ I', TPc 22 6 11 (ad B t (byt x k)) (t + 1) I' → FRt 22 6 11 I I' → a_wp aTab aMX d m_Cp_writeWord 3 [.ref 6, .int x, .int (nI k + (-8 : Int32))] [] (g, I', J) Q) : a_wp aTab aMX d m_Cp_writeWord 3 [.ref 6, .int x, .int (nI k)] [] (g, I, J) Q := by
  rw [b_Cp_writeWord_3]
  simp (disch := omega) only [b_Cp_writeWord_7 hg, b_Cp_writeWord_17 hg, b_Cp_writeWord_43, h.1, ↓reduceIte, nadd, nmul, nsub, nlt, neq, ncl, nvi, ndiv, nrem, nand, nor, nxor, nshl, nshr, exI, exJ, exV, eq_self, true_and, and_true, true_or, or_true, if_true, if_false, not_true, not_false_eq_true, false_and, and_false, decide_true, decide_false, bi_T, bi_F, bi_0, bi_1, bi_z, bft, n10, n01, Nat.reduceEqDiff, Nat.reduceLT, Nat.reduceAdd, Nat.reduceMul, reduceCtorEq, Nat.not_lt_zero, ht, byt_u]
  exact hQ _ (TPc_s (by decide) h) FRt_s
theorem w_four (hg : Geo g) {x : Int32} {k : Nat} (h : TPc 94 89 8 B t I) (hk : k ≤ 24) (ht : t < 400) (hQ : ∀ I', TPc 94 89 8 (ad B t (byt x k)) (t + 1) I' → FRt 94 89 8 I I' → a_wp aTab aMX d m_Mo_four 3 [.ref 89, .int x, .int (nI k + (-8 : Int32))] [] (g, I', J) Q) : a_wp aTab aMX d m_Mo_four 3 [.ref 89, .int x, .int (nI k)] [] (g, I, J) Q := by
  rw [b_Mo_four_3]
  simp (disch := omega) only [b_Mo_four_7 hg, h.1, ↓reduceIte, nadd, nmul, nsub, nlt, neq, ncl, nvi, ndiv, nrem, exI, exJ, exV, eq_self, true_and, and_true, true_or, or_true, if_true, if_false, not_true, not_false_eq_true, false_and, and_false, decide_true, decide_false, bi_T, bi_F, bi_0, bi_1, bi_z, bft, n10, n01, Nat.reduceEqDiff, Nat.reduceLT, Nat.reduceAdd, Nat.reduceMul, reduceCtorEq, Nat.not_lt_zero, ht, byt_r]
  exact hQ _ (TPc_s (by decide) h) FRt_s
theorem c_word (hg : Geo g) {x : Int32} (h : TPc 22 6 11 B t I) (ht : t + 4 ≤ 400) (hQ : ∀ I', TPc 22 6 11 (fd4 B t x) (t + 4) I' → FRt 22 6 11 I I' → Q none (g, I', J)) : a_call aTab aMX (d + 1) m_Cp_writeWord [.ref 6, .int x] (g, I, J) Q := by
  rw [e_Cp_writeWord, b_Cp_writeWord_0]
  refine w_word hg (by decide) h (by omega) (fun I1 a1 f1 => ?_)
  rw [show nI 24 + (-8 : Int32) = nI 16 by decide]
  refine w_word hg (by decide) a1 (by omega) (fun I2 a2 f2 => ?_)
  rw [show nI 16 + (-8 : Int32) = nI 8 by decide]
  refine w_word hg (by decide) a2 (by omega) (fun I3 a3 f3 => ?_)
  rw [show nI 8 + (-8 : Int32) = nI 0 by decide]
  refine w_word hg (by decide) a3 (by omega) (fun I4 a4 f4 => ?_)
  rw [b_Cp_writeWord_3, if_pos (by decide), b_Cp_writeWord_49]
  exact hQ I4 a4 (FRt_t (FRt_t (FRt_t f1 f2) f3) f4)
theorem c_four (hg : Geo g) {x : Int32} (h : TPc 94 89 8 B t I) (ht : t + 4 ≤ 400) (hQ : ∀ I', TPc 94 89 8 (fd4 B t x) (t + 4) I' → FRt 94 89 8 I I' → Q none (g, I', J)) : a_call aTab aMX (d + 1) m_Mo_four [.ref 89, .int x] (g, I, J) Q := by
  rw [e_Mo_four, b_Mo_four_0]
  refine w_four hg h (by decide) (by omega) (fun I1 a1 f1 => ?_)
  rw [show nI 24 + (-8 : Int32) = nI 16 by decide]
  refine w_four hg a1 (by decide) (by omega) (fun I2 a2 f2 => ?_)
  rw [show nI 16 + (-8 : Int32) = nI 8 by decide]
  refine w_four hg a2 (by decide) (by omega) (fun I3 a3 f3 => ?_)
  rw [show nI 8 + (-8 : Int32) = nI 0 by decide]
  refine w_four hg a3 (by decide) (by omega) (fun I4 a4 f4 => ?_)
  rw [b_Mo_four_3, if_pos (by decide), b_Mo_four_39]
  exact hQ I4 a4 (FRt_t (FRt_t (FRt_t f1 f2) f3) f4)
/-- tape, slips, told numbers -/
theorem INV_g {I' : Nat → Nat → Int32} (h : INV N X ow S LF g I J) (hr : ∀ a, a ≠ 6 → a ≠ 22 → ¬ (87 ≤ a ∧ a ≤ 90) → a ≠ 94 → a ≠ 122 → I' a = I a) (h89 : ∀ j, j = 44 ∨ j = 45 → I' 89 j = I 89 j) (ht : TAP I') (hs : SCA I') (h36 : I' 89 36 = nI 0 ∨ I' 89 36 = I 89 36) : INV N X ow S LF g I' J := by
  obtain ⟨h1, h2, ⟨h3, h4, h5⟩, h6, -, -, ⟨c1, c2, c3, c4, c5⟩, h9⟩ := h
  have r : ∀ a, ¬ (a = 6 ∨ a = 22 ∨ (87 ≤ a ∧ a ≤ 90) ∨ a = 94 ∨ a = 122) → I' a = I a := fun a y => hr a (by omega) (by omega) (by omega) (by omega) (by omega)
  have hW : I' 91 = I 91 := r 91 (by decide)
  refine ⟨h1, by rw [r 1 (by decide)]; exact h2, ⟨⟨fun a j y1 y2 => by rw [r a (by omega)]; exact h3.1 a j y1 y2, h3.2⟩, by rw [hW, r 14 (by decide)]; exact h4, by rw [hW]; exact LJ_cong (fun a y1 y2 => r a (by omega)) (fun _ _ => rfl) h5⟩, IMs_c h1.2.2.2.2.2.1 (r 92 (by decide)) (r 93 (by decide)) (fun a y1 _ _ => r a (by omega)) h6, ht, hs, ⟨?_, by rw [r 46 (by decide)]; exact c2, ?_, ?_, ?_⟩, ?_⟩
  · exact HC_c (r 38 (by decide)) (r 39 (by decide)) rfl c1
  · unfold PR at c3 ⊢
    rw [r 44 (by decide), r 47 (by decide)]; exact c3
  · rcases h36 with w | w
    · exact Or.inl w
    · unfold RC LR at c4 ⊢
      rw [w, h89 44 (by decide), h89 45 (by decide), r 112 (by decide)]; exact c4
  · rw [r 14 (by decide)]
    exact MC_c h1.2.2.2.1 (fun a y1 y2 => r a (by omega)) ⟨rfl, rfl⟩ (fun a y1 _ _ => ⟨r a (by omega), rfl⟩) c5
  · unfold STA at h9 ⊢
    rw [r 2 (by decide), r 3 (by decide), r 4 (by decide)]; exact h9
theorem INVx_i (h : INV N X ow S LF g I J) : INVx N X (g, I, J) := ⟨ow, S, LF, h⟩
theorem m_end {x : Int32} (h : INV N X ow S LF g I J) : BOTH N X (d + 1) m_Cp_end m_Mo_end [.int x] (g, I, J) := by
  have hg := h.1.1
  obtain ⟨B, t, t1, t2, t3, t4, t5⟩ := h.2.2.2.2.1
  by_cases q : x < nI 0
  · refine both_t h (-1) (fun Q hq => ?_) (fun Q hq => ?_)
    · simp (disch := omega) only [e_Cp_end, b_Cp_end_0, b_Cp_end_4 hg, b_Cp_end_12, b_Cp_end_14 hg, q, exI, exJ, exV, eq_self, true_and, and_true, true_or, or_true, if_true, if_false, not_true, not_false_eq_true, false_and, and_false, decide_true, decide_false, bi_T, bi_F, bi_0, bi_1, bi_z, bft, n10, n01, Nat.reduceEqDiff, Nat.reduceLT, Nat.reduceAdd, Nat.reduceMul, reduceCtorEq]; exact hq
    · simp (disch := omega) only [e_Mo_end, b_Mo_end_0 hg, b_Mo_end_9 hg, b_Mo_end_17, b_Mo_end_19 hg, q, exI, exJ, exV, eq_self, true_and, and_true, true_or, or_true, if_true, if_false, not_true, not_false_eq_true, false_and, and_false, decide_true, decide_false, bi_T, bi_F, bi_0, bi_1, bi_z, bft, n10, n01, Nat.reduceEqDiff, Nat.reduceLT, Nat.reduceAdd, Nat.reduceMul, reduceCtorEq]; exact hq
  by_cases q2 : nI t < x
  · refine both_t h (-1) (fun Q hq => ?_) (fun Q hq => ?_)
    · simp (disch := omega) only [e_Cp_end, b_Cp_end_0, b_Cp_end_4 hg, b_Cp_end_12, b_Cp_end_14 hg, q, t3, q2, exI, exJ, exV, eq_self, true_and, and_true, true_or, or_true, if_true, if_false, not_true, not_false_eq_true, false_and, and_false, decide_true, decide_false, bi_T, bi_F, bi_0, bi_1, bi_z, bft, n10, n01, Nat.reduceEqDiff, Nat.reduceLT, Nat.reduceAdd, Nat.reduceMul, reduceCtorEq]; exact hq
    · simp (disch := omega) only [e_Mo_end, b_Mo_end_0 hg, b_Mo_end_9 hg, b_Mo_end_17, b_Mo_end_19 hg, q, u2_k, t4, q2, exI, exJ, exV, eq_self, true_and, and_true, true_or, or_true, if_true, if_false, not_true, not_false_eq_true, false_and, and_false, decide_true, decide_false, bi_T, bi_F, bi_0, bi_1, bi_z, bft, n10, n01, Nat.reduceEqDiff, Nat.reduceLT, Nat.reduceAdd, Nat.reduceMul, reduceCtorEq]; exact hq
  obtain ⟨m, rfl, -, hm⟩ := irng (by decide) (by omega) q q2
  refine both_i (nI m) (fun Q hq => ?_) (h1 := ?_) (hN := ?_) (I1 := u2 I 6 11 (nI m)) (g1 := g) (J1 := J) ?_
  · simp (disch := omega) only [e_Cp_end, b_Cp_end_0, b_Cp_end_4 hg, b_Cp_end_12, b_Cp_end_14 hg, q, t3, q2, exI, exJ, exV, eq_self, true_and, and_true, true_or, or_true, if_true, if_false, not_true, not_false_eq_true, false_and, and_false, decide_true, decide_false, bi_T, bi_F, bi_0, bi_1, bi_z, bft, n10, n01, Nat.reduceEqDiff, Nat.reduceLT, Nat.reduceAdd, Nat.reduceMul, reduceCtorEq]; exact hq
  · rw [u2_r (by decide)]; exact h.2.1
  · exact h.1.2.2.1
  simp (disch := omega) only [e_Mo_end, b_Mo_end_0 hg, b_Mo_end_9 hg, b_Mo_end_17, b_Mo_end_19 hg, q, u2_k, u2_a, t4, q2, exI, exJ, exV, eq_self, true_and, and_true, true_or, or_true, if_true, if_false, not_true, not_false_eq_true, false_and, and_false, decide_true, decide_false, bi_T, bi_F, bi_0, bi_1, bi_z, bft, n10, n01, Nat.reduceEqDiff, Nat.reduceLT, Nat.reduceAdd, Nat.reduceMul, reduceCtorEq]
  obtain ⟨s1, s2, s3, s4, s5, s6⟩ := h.2.2.2.2.2.1
  refine INVx_i (INV_g h (fun a y1 y2 y3 y4 y5 => ?_) (fun j hj => ?_) ⟨B, m, t1, by omega, ?_, ?_, fun i hi => ?_⟩ ⟨?_, ?_, ?_, ?_, fun b hb => ?_, fun r y1 y2 => ?_⟩ (Or.inr ?_))
  · rw [u2_r (by omega), u2_r (by omega), u2_r (by omega)]
  · rw [u2_k (by omega), u2_k (by omega), u2_a (by decide)]
  · simp (disch := omega) only [u2_s, u2_a]
  · exact u2_s
  · simp (disch := omega) only [u2_s, u2_a]; exact t5 i (by omega)
  · simp (disch := omega) only [u2_k, u2_a]; exact s1
  · simp (disch := omega) only [u2_k, u2_a]; exact s2
  · simp (disch := omega) only [u2_k, u2_a]; exact s3
  · simp (disch := omega) only [u2_k, u2_a]; exact s4
  · simp (disch := omega) only [u2_a]; exact s5 b hb
  · simp (disch := omega) only [u2_a]; exact s6 r y1 y2
  · simp (disch := omega) only [u2_k, u2_a]
theorem m_feed {x1 x2 x3 x4 x5 : Int32} (h : INV N X ow S LF g I J) : BOTH N X (d + 2) m_Cp_feed m_Mo_feed [.int x1, .int x2, .int x3, .int x4, .int x5] (g, I, J) := by
  have hg := h.1.1
  obtain ⟨B, t, t1, t2, t3, t4, t5⟩ := h.2.2.2.2.1
  by_cases q : 400 < t + 20
  · refine both_t h (-1) (fun Q hq => ?_) (fun Q hq => ?_)
    · simp (disch := omega) only [e_Cp_feed, b_Cp_feed_0 hg, b_Cp_feed_13, b_Cp_feed_15 hg, b_Cp_feed_20 hg, b_Cp_feed_25 hg, b_Cp_feed_30 hg, b_Cp_feed_36 hg, b_Cp_feed_42 hg, t3, ↓reduceIte, nadd, nmul, nsub, nlt, neq, ncl, nvi, ndiv, nrem, nand, nor, nxor, nshl, nshr, q, exI, exJ, exV, eq_self, true_and, and_true, true_or, or_true, if_true, if_false, not_true, not_false_eq_true, false_and, and_false, decide_true, decide_false, bi_T, bi_F, bi_0, bi_1, bi_z, bft, n10, n01, Nat.reduceEqDiff, Nat.reduceLT, Nat.reduceAdd, Nat.reduceMul, reduceCtorEq]; exact hq
    · simp (disch := omega) only [e_Mo_feed, b_Mo_feed_0 hg, b_Mo_feed_18, b_Mo_feed_20 hg, b_Mo_feed_25 hg, b_Mo_feed_30 hg, b_Mo_feed_35 hg, b_Mo_feed_41 hg, b_Mo_feed_47 hg, u2_k, t4, ↓reduceIte, nadd, nmul, nsub, nlt, neq, ncl, nvi, ndiv, nrem, nand, nor, nxor, nshl, nshr, q, exI, exJ, exV, eq_self, true_and, and_true, true_or, or_true, if_true, if_false, not_true, not_false_eq_true, false_and, and_false, decide_true, decide_false, bi_T, bi_F, bi_0, bi_1, bi_z, bft, n10, n01, Nat.reduceEqDiff, Nat.reduceLT, Nat.reduceAdd, Nat.reduceMul, reduceCtorEq]; exact hq
  unfold BOTH
  rw [e_Cp_feed, b_Cp_feed_0 hg, t3, nadd, if_neg (by rw [nlt (by omega) (by omega)]; exact q), b_Cp_feed_15 hg]
  have k0 : TPc 22 6 11 B t I := ⟨t3, fun i hi => (t5 i hi).1⟩
  refine c_word hg k0 (by omega) (fun I1 a1 f1 => ?_)
  simp only [exV, true_and]
  rw [b_Cp_feed_20 hg]
  refine c_word hg a1 (by omega) (fun I2 a2 f2 => ?_)
  simp only [exV, true_and]
  rw [b_Cp_feed_25 hg]
  refine c_word hg a2 (by omega) (fun I3 a3 f3 => ?_)
  simp only [exV, true_and]
  rw [b_Cp_feed_30 hg]
  refine c_word hg a3 (by omega) (fun I4 a4 f4 => ?_)
  simp only [exV, true_and]
  rw [b_Cp_feed_36 hg]
  refine c_word hg a4 (by omega) (fun I5 a5 f5 => ?_)
  simp only [exV, true_and]
  rw [b_Cp_feed_42 hg, a5.1]
  have F := FRt_t (FRt_t (FRt_t (FRt_t f1 f2) f3) f4) f5
  clear f1 f2 f3 f4 f5 a1 a2 a3 a4 I1 I2 I3 I4
  refine ⟨_, rfl, ?_, h.1.2.2.1, ?_⟩
  · show I5 1 = X
    rw [← h.2.1]
    exact funext (fun j => F 1 j (by decide) (by omega))
  rw [e_Mo_feed, b_Mo_feed_0 hg, u2_k (by decide), F 89 8 (by decide) (by decide), t4, nadd, if_neg (by rw [nlt (by omega) (by omega)]; exact q), b_Mo_feed_20 hg]
  have z0 : FRt 94 89 8 (u2 I5 89 0 (nI 0)) (u2 I5 89 0 (nI 0)) := fun _ _ _ _ => rfl
  have k1 : TPc 94 89 8 B t (u2 I5 89 0 (nI 0)) := ⟨by rw [u2_k (by decide), F 89 8 (by decide) (by decide), t4], fun i hi => by rw [u2_a (by decide), F 94 i (by decide) (by omega)]; exact (t5 i hi).2⟩
  refine c_four hg k1 (by omega) (fun I1 a1 f1 => ?_)
  simp only [exV, true_and]
  rw [b_Mo_feed_25 hg]
  refine c_four hg a1 (by omega) (fun I2 a2 f2 => ?_)
  simp only [exV, true_and]
  rw [b_Mo_feed_30 hg]
  refine c_four hg a2 (by omega) (fun I3 a3 f3 => ?_)
  simp only [exV, true_and]
  rw [b_Mo_feed_35 hg]
  refine c_four hg a3 (by omega) (fun I4 a4 f4 => ?_)
  simp only [exV, true_and]
  rw [b_Mo_feed_41 hg]
  refine c_four hg a4 (by omega) (fun I6 a6 f6 => ?_)
  simp only [exV, true_and]
  rw [b_Mo_feed_47 hg, a6.1]
  have F6 := FRt_t (FRt_t (FRt_t (FRt_t f1 f2) f3) f4) f6
  clear f1 f2 f3 f4 f6 a1 a2 a3 a4 I1 I2 I3 I4 z0
  have G : ∀ a j, a ≠ 22 → a ≠ 94 → ¬ (a = 6 ∧ j = 11) → ¬ (a = 89 ∧ (j = 8 ∨ j = 0)) → I6 a j = I a j := fun a j y1 y2 y3 y4 => by
    rw [F6 a j y2 (by omega), show u2 I5 89 0 (nI 0) a j = I5 a j from if_neg (by omega), F a j y1 y3]
  obtain ⟨s1, s2, s3, s4, s5, s6⟩ := h.2.2.2.2.2.1
  refine ⟨_, rfl, rfl, INVx_i (INV_g h (fun a y1 y2 y3 y4 y5 => funext (fun j => G a j y2 y4 (by omega) (by omega))) (fun j hj => G 89 j (by decide) (by decide) (by omega) (by omega)) ⟨_, _, fd4_le (fd4_le (fd4_le (fd4_le (fd4_le t1)))), by omega, ?_, a6.1, fun i hi => ⟨?_, a6.2 i hi⟩⟩ ⟨?_, ?_, ?_, ?_, fun b hb => ?_, fun r y1 y2 => ?_⟩ (Or.inr (G 89 36 (by decide) (by decide) (by decide) (by decide))))⟩
  · rw [F6 6 11 (by decide) (by decide), u2_a (by decide)]; exact a5.1
  · rw [F6 22 i (by decide) (by omega), u2_a (by decide)]; exact a5.2 i hi
  · rw [G 6 12 (by decide) (by decide) (by decide) (by decide), G 89 6 (by decide) (by decide) (by decide) (by decide)]; exact s1
  · rw [G 6 13 (by decide) (by decide) (by decide) (by decide), G 89 13 (by decide) (by decide) (by decide) (by decide)]; exact s2
  · rw [G 6 14 (by decide) (by decide) (by decide) (by decide), G 89 1 (by decide) (by decide) (by decide) (by decide)]; exact s3
  · rw [G 6 15 (by decide) (by decide) (by decide) (by decide), G 89 61 (by decide) (by decide) (by decide) (by decide)]; exact s4
  · rw [G 87 b (by decide) (by decide) (by omega) (by omega), G 122 b (by decide) (by decide) (by omega) (by omega)]; exact s5 b hb
  · rw [G 88 r (by decide) (by decide) (by omega) (by omega), G 90 r (by decide) (by decide) (by omega) (by omega)]; exact s6 r y1 y2
end FED
