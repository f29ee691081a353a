/-! ===== sets of figures, what each can make ===== -/
def sz (s : Nat) : Nat := fb_ct (fun k => s.testBit k) 6
def th (s k : Nat) : Nat := fb_sm (fun f => if s.testBit f && decide (fb_ct (fun k => s.testBit k) f = k) then f else 0) 6
theorem sz_pc : ∀ s : Fin 64, pcI (nI s.val) = sz s.val := by decide +kernel
theorem sz_p : ∀ s : Fin 64, s.val ≠ 0 → 1 ≤ sz s.val := by decide +kernel
theorem th_all : ∀ s : Fin 64, ∀ k : Fin 6, k.val < sz s.val → th s.val k.val < 6 ∧ s.val.testBit (th s.val k.val) = true ∧ fb_ct (fun k => s.val.testBit k) (th s.val k.val) = k.val := by decide +kernel
theorem th_s {s k : Nat} (hs : s < 64) (h : k < sz s) : th s k < 6 ∧ s.testBit (th s k) = true ∧ fb_ct (fun k => s.testBit k) (th s k) = k := by
  have h6 : sz s ≤ 6 := fb_ct_le _ 6
  exact th_all ⟨s, hs⟩ ⟨k, by omega⟩ h
theorem th_ne {s k k' : Nat} (hs : s < 64) (h : k < sz s) (h' : k' < sz s) (hk : k ≠ k') : th s k ≠ th s k' := by
  intro e
  have h1 := (th_s hs h).2.2
  have h2 := (th_s hs h').2.2
  rw [e, h2] at h1
  exact hk h1.symm
theorem th_of {s f : Nat} (hs : s < 64) (hf : f < 6) (h : s.testBit f = true) : fb_ct (fun k => s.testBit k) f < sz s ∧ th s (fb_ct (fun k => s.testBit k) f) = f := by
  have h1 : fb_ct (fun k => s.testBit k) f < sz s := by
    have := fb_ct_mono (fun k => s.testBit k) (show f + 1 ≤ 6 by omega)
    rw [fb_ct_succ, if_pos h] at this
    unfold sz
    omega
  refine ⟨h1, ?_⟩
  have h2 := th_s hs h1
  exact fb_ct_kth_one (p := fun k => s.testBit k) h2.2.1 h h2.2.2
noncomputable def wS (fu : Nat) (A : Nat → List (Nat × Nat)) (s : Nat) : Nat := if sz s = 1 then ct1 fu (LM (A (th s 0))) (A (th s 0)).length else if sz s = 2 then ct2 fu (LM (A (th s 0))) (LM (A (th s 1))) (A (th s 0)).length (A (th s 1)).length else ct3 fu (LM (A (th s 0))) (LM (A (th s 1))) (LM (A (th s 2))) (A (th s 0)).length (A (th s 1)).length (A (th s 2)).length
def FWt (fu : Nat) (A : Nat → List (Nat × Nat)) (s a b c : Nat) : Prop := (sz s = 1 → fw1 fu (LM (A (th s 0))) (A (th s 0)).length a) ∧ (sz s = 2 → fw2 fu (LM (A (th s 0))) (LM (A (th s 1))) (A (th s 0)).length (A (th s 1)).length a b) ∧ (sz s = 3 → fw3 fu (LM (A (th s 0))) (LM (A (th s 1))) (LM (A (th s 2))) (A (th s 0)).length (A (th s 1)).length (A (th s 2)).length a b c)
def CHO (fu : Nat) (A : Nat → List (Nat × Nat)) (s : Nat) (val : Nat → Nat → Nat) (X : Nat → Int32) : Prop := ∃ a b c, FWt fu A s a b c ∧ X (th s 0) = nI (val (th s 0) a) ∧ (2 ≤ sz s → X (th s 1) = nI (val (th s 1) b)) ∧ (3 ≤ sz s → X (th s 2) = nI (val (th s 2) c))
theorem fw1_u {fu n i i' : Nat} {A : Nat → Nat} (h : fw1 fu A n i) (h' : fw1 fu A n i') : i = i' := by
  rcases Nat.lt_trichotomy i i' with q | q | q
  · exact absurd h.2.1 (h'.2.2 i q)
  · exact q
  · exact absurd h'.2.1 (h.2.2 i' q)
theorem fw2_u {fu n m i i' j j' : Nat} {A B : Nat → Nat} (h : fw2 fu A B n m i j) (h' : fw2 fu A B n m i' j') : i = i' ∧ j = j' := by
  obtain ⟨a1, a2, a3, a4, a5⟩ := h
  obtain ⟨b1, b2, b3, b4, b5⟩ := h'
  have e : i = i' := by
    rcases Nat.lt_trichotomy i i' with q | q | q
    · exact absurd a3 (b4 i q j a2)
    · exact q
    · exact absurd b3 (a4 i' q j' b2)
  refine ⟨e, ?_⟩
  rcases Nat.lt_trichotomy j j' with q | q | q
  · have := b5 j q; rw [← e] at this; exact absurd a3 this
  · exact q
  · have := a5 j' q; rw [e] at this; exact absurd b3 this
theorem fw3_u {fu n m l i i' j j' k k' : Nat} {A B C : Nat → Nat} (h : fw3 fu A B C n m l i j k) (h' : fw3 fu A B C n m l i' j' k') : i = i' ∧ j = j' ∧ k = k' := by
  obtain ⟨a1, a2, a3, a4, a5, a6⟩ := h
  obtain ⟨b1, b2, b3, b4, b5, b6⟩ := h'
  have e : i = i' := by
    rcases Nat.lt_trichotomy i i' with q | q | q
    · exact absurd a4 (b5 i q j a2 k a3)
    · exact q
    · exact absurd b4 (a5 i' q j' b2 k' b3)
  subst e
  have h1 := a6 j' k' b2 b3 b4
  have h2 := b6 j k a2 a3 a4
  unfold lexle at h1 h2
  exact ⟨rfl, by omega, by omega⟩
theorem FWt_u {fu s a b c a' b' c' : Nat} {A : Nat → List (Nat × Nat)} (h1 : 1 ≤ sz s) (h3 : sz s ≤ 3) (h : FWt fu A s a b c) (h' : FWt fu A s a' b' c') : a = a' ∧ (2 ≤ sz s → b = b') ∧ (3 ≤ sz s → c = c') := by
  have hz : sz s = 1 ∨ sz s = 2 ∨ sz s = 3 := by omega
  rcases hz with e | e | e
  · exact ⟨fw1_u (h.1 e) (h'.1 e), fun w => absurd w (by omega), fun w => absurd w (by omega)⟩
  · have := fw2_u (h.2.1 e) (h'.2.1 e)
    exact ⟨this.1, fun _ => this.2, fun w => absurd w (by omega)⟩
  · have := fw3_u (h.2.2 e) (h'.2.2 e)
    exact ⟨this.1, fun _ => this.2.1, fun _ => this.2.2⟩
/-- the class has the places, the reference their numbers: of one figure of the set both speak of one shadow -/
theorem CHO_eq {fu s f : Nat} {A : Nat → List (Nat × Nat)} {v w : Nat → Nat → Nat} {X Y : Nat → Int32} (hs : s < 64) (h3 : sz s ≤ 3) (h : CHO fu A s v X) (h' : CHO fu A s w Y) (hf : f < 6) (hb : s.testBit f = true) : ∃ i, i < (A f).length ∧ X f = nI (v f i) ∧ Y f = nI (w f i) := by
  obtain ⟨a, b, c, hw, x0, x1, x2⟩ := h
  obtain ⟨a', b', c', hw', y0, y1, y2⟩ := h'
  obtain ⟨t1, t2⟩ := th_of hs hf hb
  obtain ⟨e1, e2, e3⟩ := FWt_u (by omega) h3 hw hw'
  have hz : sz s = 1 ∨ sz s = 2 ∨ sz s = 3 := by omega
  have hk : fb_ct (fun k => s.testBit k) f = 0 ∨ fb_ct (fun k => s.testBit k) f = 1 ∨ fb_ct (fun k => s.testBit k) f = 2 := by omega
  have la : a < (A (th s 0)).length := by
    rcases hz with e | e | e
    · exact (hw.1 e).1
    · exact (hw.2.1 e).1
    · exact (hw.2.2 e).1
  have lb : 2 ≤ sz s → b < (A (th s 1)).length := by
    intro h
    rcases hz with e | e | e
    · omega
    · exact (hw.2.1 e).2.1
    · exact (hw.2.2 e).2.1
  have lc : 3 ≤ sz s → c < (A (th s 2)).length := by
    intro h
    rcases hz with e | e | e
    · omega
    · omega
    · exact (hw.2.2 e).2.2.1
  rcases hk with e | e | e
  · rw [e] at t2
    rw [← t2]
    exact ⟨a, la, x0, by rw [e1]; exact y0⟩
  · rw [e] at t1 t2
    rw [← t2]
    exact ⟨b, lb (by omega), x1 (by omega), by rw [e2 (by omega)]; exact y1 (by omega)⟩
  · rw [e] at t1 t2
    rw [← t2]
    exact ⟨c, lc (by omega), x2 (by omega), by rw [e3 (by omega)]; exact y2 (by omega)⟩
def XT (I I' : Nat → Nat → Int32) : Prop := ∀ a k, a ≠ 85 → a ≠ 86 → ¬ (a = 49 ∧ (k = 0 ∨ k = 10 ∨ k = 11 ∨ k = 12 ∨ k = 13)) → I' a k = I a k
theorem XT_t {I I' I2 : Nat → Nat → Int32} (h1 : XT I I') (h2 : XT I' I2) : XT I I2 := fun a k h3 h4 h5 => (h2 a k h3 h4 h5).trans (h1 a k h3 h4 h5)
theorem XT_r (I : Nat → Nat → Int32) : XT I I := fun _ _ _ _ _ => rfl
theorem XT_a {I I' : Nat → Nat → Int32} (h : XT I I') {a : Nat} (h1 : a ≠ 85) (h0 : a ≠ 86) (h2 : a ≠ 49) : I' a = I a := funext (fun k => h a k h1 h0 (by omega))
theorem PI_y {p : Nat} {L : List (Nat × Nat)} {I I' : Nat → Nat → Int32} {J J' : Nat → Nat → Int64} (hp : 123 ≤ p) (h1 : XT I I') (h2 : XJ J J') (h : PI p L I J) : PI p L I' J' := by
  have e : ∀ a, 123 ≤ a → I' a = I a := fun a ha => XT_a h1 (by omega) (by omega) (by omega)
  have e2 : ∀ a, 123 ≤ a → J' a = J a := fun a ha => XJ_a h2 (by omega)
  unfold PI at h ⊢
  rw [e p hp, e2 p hp, e2 (p + 1) (by omega), e (p + 2) (by omega), e2 (p + 3) (by omega), e (p + 4) (by omega), e (p + 5) (by omega), e (p + 6) (by omega)]
  exact h
section TST
variable {d : Nat} {g : aG} {I : Nat → Nat → Int32} {J : Nat → Nat → Int64} {Q : aQ}
theorem rbt {s k : Nat} {t e : Prop} (hk : k < 32) : (if (nI s >>> (nI k &&& 31)) &&& nI 1 = nI 1 then t else e) = (if s.testBit k = true then t else e) := by
  simp only [bt_sh _ hk, bt_nI hk, bi_1]
theorem c_trySet (hg : Geo g) {s W fu : Nat} {A : Nat → List (Nat × Nat)} (hs : s < 64) (h1 : 1 ≤ sz s) (h3 : sz s ≤ 3) (hA : ∀ f, f < 6 → s.testBit f = true → PO g (gR g 83 f) ∧ PI (gR g 83 f) (A f) I J) (hL : ∀ f, f < 6 → mOk (A f) ∧ (A f).length ≤ 1632 ∧ ∀ i, i < (A f).length → sbs (LM (A f) i) fu) (hfu : fu < 2 ^ 64) (h50 : J 50 1 = lN fu) (hW : J 49 9 = lN W) (hQ : ∀ I' J', XT I I' → XJ J J' → J' 49 9 = lN (W + wS fu A s) → RES (wS fu A s ≠ 0) (CHO fu A s (fun f i => LQ (A f) i)) I I' (sz s) s → Q none (g, I', J')) : a_call aTab aMX (d + 6) m_Maker_trySet [.ref 49, .int (nI s)] (g, I, J) Q := by
  have hpc : pcI (nI s) = sz s := sz_pc ⟨s, hs⟩
  rw [e_Maker_trySet, b_Maker_trySet_0]
  have go : ∀ I2, (∀ a, a ≠ 86 → I2 a = I a) → (∀ k, k < sz s → I2 86 k = nI (th s k)) → ∀ v3, a_wp aTab aMX (d + 5) m_Maker_trySet 40 [.ref 49, .int (nI s), .int (nI (sz s)), v3, aU, aU] [] (g, I2, J) Q := by
    intro I2 ho h86 v3
    have hXT : XT I I2 := fun a k _ h _ => by rw [ho a h]
    have PI2 : ∀ f, f < 6 → s.testBit f = true → PO g (gR g 83 f) ∧ PI (gR g 83 f) (A f) I2 J := fun f hf hb => ⟨(hA f hf hb).1, PI_y (hA f hf hb).1.1 hXT (XJ_r J) (hA f hf hb).2⟩
    have t0 := th_s hs (show 0 < sz s by omega)
    have a0 := PI2 _ t0.1 t0.2.1
    have l0 := hL _ t0.1
    have b0 := a0.1.1
    have z0 : ¬ gR g 83 (th s 0) = 0 := by omega
    have tr : ∀ I3, XM I2 I3 → XT I I3 := fun I3 hX => XT_t hXT (fun a k y1 _ y3 => hX a k y1 y3)
    have rr : ∀ {fd : Prop} {fw : (Nat → Int32) → Prop} {I3 : Nat → Nat → Int32}, RES fd fw I2 I3 (sz s) s → RES fd fw I I3 (sz s) s := by
      intro fd fw I3 h
      unfold RES BT at h ⊢
      rw [ho 49 (by decide), ho 85 (by decide)] at h
      exact h
    have e0 := h86 0 (by omega)
    have hz : sz s = 1 ∨ sz s = 2 ∨ sz s = 3 := by omega
    have q0 := t0.1
    rcases hz with e | e | e
    · rw [e]
      simp (disch := omega) only [b_Maker_trySet_40 hg, b_Maker_trySet_71, b_Maker_trySet_72, b_Maker_trySet_93, b_Maker_trySet_94, b_Maker_trySet_101, ↓reduceIte, nadd, nmul, nsub, nlt, neq, ncl, nvi, ndiv, nrem, exI, exJ, exV, eq_self, true_and, and_true, true_or, or_true, if_true, if_false, not_true, not_false_eq_true, false_and, and_false, decide_true, decide_false, bi_T, bi_F, bi_0, bi_1, bi_z, bft, n10, n01, Nat.reduceEqDiff, Nat.reduceLT, Nat.reduceAdd, Nat.reduceMul, reduceCtorEq, e0, q0, z0]
      rw [b_Maker_trySet_106 hg]
      refine c_trySingle hg a0.1 a0.2 l0.1 l0.2.1 hpc (by omega) t0.1 e0 hfu h50 hW ?_
      intro I3 J3 hX hXJ h9 hR
      simp only [exV, true_and]
      rw [b_Maker_trySet_112, b_Maker_trySet_141]
      have ew : wS fu A s = ct1 fu (LM (A (th s 0))) (A (th s 0)).length := if_pos e
      refine hQ I3 J3 (tr I3 hX) hXJ (by rw [ew]; exact h9) (rr ?_)
      rw [ew]
      refine RES_m hR Iff.rfl ?_
      rintro X ⟨i, w1, w2⟩
      exact ⟨i, 0, 0, ⟨fun _ => w1, fun w => absurd w (by omega), fun w => absurd w (by omega)⟩, w2, fun w => absurd w (by omega), fun w => absurd w (by omega)⟩
    · have t1 := th_s hs (show 1 < sz s by omega)
      have a1 := PI2 _ t1.1 t1.2.1
      have l1 := hL _ t1.1
      have b1 := a1.1.1
      have z1 : ¬ gR g 83 (th s 1) = 0 := by omega
      have e1 := h86 1 (by omega)
      have q1 := t1.1
      rw [e]
      simp (disch := omega) only [b_Maker_trySet_40 hg, b_Maker_trySet_57 hg, b_Maker_trySet_72, b_Maker_trySet_93, b_Maker_trySet_94, b_Maker_trySet_101, b_Maker_trySet_115, ↓reduceIte, nadd, nmul, nsub, nlt, neq, ncl, nvi, ndiv, nrem, exI, exJ, exV, eq_self, true_and, and_true, true_or, or_true, if_true, if_false, not_true, not_false_eq_true, false_and, and_false, decide_true, decide_false, bi_T, bi_F, bi_0, bi_1, bi_z, bft, n10, n01, Nat.reduceEqDiff, Nat.reduceLT, Nat.reduceAdd, Nat.reduceMul, reduceCtorEq, e0, q0, z0, e1, q1, z1]
      rw [b_Maker_trySet_120 hg]
      refine c_tryPair hg a0.1 a0.2 l0.1 l0.2.1 a1.1 a1.2 l1.1 l1.2.1 l0.2.2 l1.2.2 hpc (by omega) t0.1 t1.1 (th_ne hs (by omega) (by omega) (by decide)) e0 e1 hfu h50 hW ?_
      intro I3 J3 hX hXJ h9 hR
      simp only [exV, true_and]
      rw [b_Maker_trySet_128, b_Maker_trySet_141]
      have ew : wS fu A s = ct2 fu (LM (A (th s 0))) (LM (A (th s 1))) (A (th s 0)).length (A (th s 1)).length := by unfold wS; rw [if_neg (by omega), if_pos e]
      refine hQ I3 J3 (tr I3 hX) hXJ (by rw [ew]; exact h9) (rr ?_)
      rw [ew]
      refine RES_m hR Iff.rfl ?_
      rintro X ⟨i, j, w1, w2, w3⟩
      exact ⟨i, j, 0, ⟨fun w => absurd w (by omega), fun _ => w1, fun w => absurd w (by omega)⟩, w2, fun _ => w3, fun w => absurd w (by omega)⟩
    · have t1 := th_s hs (show 1 < sz s by omega)
      have a1 := PI2 _ t1.1 t1.2.1
      have l1 := hL _ t1.1
      have b1 := a1.1.1
      have z1 : ¬ gR g 83 (th s 1) = 0 := by omega
      have e1 := h86 1 (by omega)
      have q1 := t1.1
      have t2 := th_s hs (show 2 < sz s by omega)
      have a2 := PI2 _ t2.1 t2.2.1
      have l2 := hL _ t2.1
      have b2 := a2.1.1
      have z2 : ¬ gR g 83 (th s 2) = 0 := by omega
      have e2 := h86 2 (by omega)
      have q2 := t2.1
      rw [e]
      simp (disch := omega) only [b_Maker_trySet_40 hg, b_Maker_trySet_57 hg, b_Maker_trySet_72, b_Maker_trySet_79 hg, b_Maker_trySet_94, b_Maker_trySet_101, b_Maker_trySet_115, ↓reduceIte, nadd, nmul, nsub, nlt, neq, ncl, nvi, ndiv, nrem, exI, exJ, exV, eq_self, true_and, and_true, true_or, or_true, if_true, if_false, not_true, not_false_eq_true, false_and, and_false, decide_true, decide_false, bi_T, bi_F, bi_0, bi_1, bi_z, bft, n10, n01, Nat.reduceEqDiff, Nat.reduceLT, Nat.reduceAdd, Nat.reduceMul, reduceCtorEq, e0, q0, z0, e1, q1, z1, e2, q2, z2]
      rw [b_Maker_trySet_131 hg]
      refine c_tryTriple hg a0.1 a0.2 l0.1 l0.2.1 a1.1 a1.2 l1.1 l1.2.1 a2.1 a2.2 l2.1 l2.2.1 l1.2.2 l2.2.2 hpc (by omega) t0.1 t1.1 t2.1 (th_ne hs (by omega) (by omega) (by decide)) (th_ne hs (by omega) (by omega) (by decide)) (th_ne hs (by omega) (by omega) (by decide)) e0 e1 e2 hfu h50 hW ?_
      intro I3 J3 hX hXJ h9 hR
      simp only [exV, true_and]
      rw [b_Maker_trySet_141]
      have ew : wS fu A s = ct3 fu (LM (A (th s 0))) (LM (A (th s 1))) (LM (A (th s 2))) (A (th s 0)).length (A (th s 1)).length (A (th s 2)).length := by unfold wS; rw [if_neg (by omega), if_neg (by omega)]
      refine hQ I3 J3 (tr I3 hX) hXJ (by rw [ew]; exact h9) (rr ?_)
      rw [ew]
      refine RES_m hR Iff.rfl ?_
      rintro X ⟨i, j, k, w1, w2, w3, w4⟩
      exact ⟨i, j, k, ⟨fun w => absurd w (by omega), fun w => absurd w (by omega), fun _ => w1⟩, w2, fun _ => w3, fun _ => w4⟩
  have done : ∀ f, fb_ct (fun k => s.testBit k) f = sz s → ∀ I2, (∀ a, a ≠ 86 → I2 a = I a) → (∀ p, p < f → s.testBit p = true → I2 86 (fb_ct (fun k => s.testBit k) p) = nI p) → a_wp aTab aMX (d + 5) m_Maker_trySet 40 [.ref 49, .int (nI s), .int (nI (fb_ct (fun k => s.testBit k) f)), .int (nI f), aU, aU] [] (g, I2, J) Q := by
    intro f e I2 ho h
    rw [e]
    refine go I2 ho (fun k hk => ?_) _
    obtain ⟨w1, w2, w3⟩ := th_s hs hk
    have := h (th s k) ?_ w2
    · rw [w3] at this; exact this
    · by_cases q : th s k < f
      · exact q
      · have := fb_ct_mono (fun k => s.testBit k) (show f ≤ th s k by omega)
        omega
  refine dn (P := fun f => ∀ I2, (∀ a, a ≠ 86 → I2 a = I a) → (∀ p, p < f → s.testBit p = true → I2 86 (fb_ct (fun k => s.testBit k) p) = nI p) → a_wp aTab aMX (d + 5) m_Maker_trySet 4 [.ref 49, .int (nI s), .int (nI (fb_ct (fun k => s.testBit k) f)), .int (nI f), aU, aU] [] (g, I2, J) Q) (n := 6) ?_ ?_ 0 (by omega) I (fun _ _ => rfl) (fun p hp => absurd hp (by omega))
  · intro I2 ho h
    rw [b_Maker_trySet_4, rlt (by omega) (by omega), if_neg (by omega)]
    exact done 6 rfl I2 ho h
  · intro f hf ih I2 ho h
    have hle : fb_ct (fun k => s.testBit k) f ≤ sz s := fb_ct_mono _ (by omega)
    obtain ⟨n, en⟩ : ∃ n, n = fb_ct (fun k => s.testBit k) f := ⟨_, rfl⟩
    rw [b_Maker_trySet_4, rlt (by omega) (by omega), if_pos hf, b_Maker_trySet_10, ← en, rlt (by omega) (by omega)]
    by_cases q : n < 3
    rotate_left
    · rw [if_neg q, en]
      exact done f (by omega) I2 ho h
    rw [if_pos q, b_Maker_trySet_15, rbt (by omega)]
    have es := fb_ct_succ (fun k => s.testBit k) f
    cases qb : s.testBit f
    · rw [qb] at es
      have es : fb_ct (fun k => s.testBit k) (f + 1) = n := by rw [es, en]; rfl
      rw [if_neg (by decide), b_Maker_trySet_34, nadd, ← es]
      refine ih I2 ho (fun p hp hb => h p ?_ hb)
      by_cases z : p = f
      · rw [z, qb] at hb; cases hb
      · omega
    · rw [qb] at es
      have es : fb_ct (fun k => s.testBit k) (f + 1) = n + 1 := by rw [es, en]; rfl
      rw [if_pos rfl]
      simp (disch := omega) only [b_Maker_trySet_24 hg, b_Maker_trySet_34, ↓reduceIte, nadd, nmul, nsub, nlt, neq, ncl, nvi, ndiv, nrem, exI, exJ, exV, eq_self, true_and, and_true, true_or, or_true, if_true, if_false, not_true, not_false_eq_true, false_and, and_false, decide_true, decide_false, bi_T, bi_F, bi_0, bi_1, bi_z, bft, n10, n01, Nat.reduceEqDiff, Nat.reduceLT, Nat.reduceAdd, Nat.reduceMul, reduceCtorEq, q]
      rw [← es]
      refine ih _ (fun a ha => funext (fun j => by rw [u2_a ha, ho a ha])) (fun p hp hb => ?_)
      by_cases z : p = f
      · rw [z, ← en, u2_s]
      · have w := h p (by omega) hb
        have hlt : fb_ct (fun k => s.testBit k) p < n := by
          have := fb_ct_mono (fun k => s.testBit k) (show p + 1 ≤ f by omega)
          rw [fb_ct_succ, if_pos hb] at this
          omega
        rw [u2_k (by omega)]
        exact w
end TST
