/-! ===== the reference takes what makes the sheet ===== -/
def RSr (fd : Prop) (fw : (Nat → Int32) → Prop) (I I2 : Nat → Nat → Int32) (z s : Nat) : Prop := ((fd ∧ I 89 55 = (-1 : Int32)) → I2 89 55 = nI z ∧ I2 89 56 = nI s ∧ fw (I2 120)) ∧ (¬ (fd ∧ I 89 55 = (-1 : Int32)) → I2 89 55 = I 89 55 ∧ I2 89 56 = I 89 56 ∧ I2 120 = I 120)
theorem RSr_0 {fd : Prop} {fw : (Nat → Int32) → Prop} {I : Nat → Nat → Int32} {z s : Nat} (h : ¬ fd) : RSr fd fw I I z s := ⟨fun w => absurd w.1 h, fun _ => ⟨rfl, rfl, rfl⟩⟩
theorem RSr_m {fd fd' : Prop} {fw fw' : (Nat → Int32) → Prop} {I I2 : Nat → Nat → Int32} {z s : Nat} (h : RSr fd fw I I2 z s) (hf : fd ↔ fd') (hw : ∀ X, fd → fw X → fw' X) : RSr fd' fw' I I2 z s := by
  refine ⟨fun w => ?_, fun w => ?_⟩
  · obtain ⟨h1, h2, h3⟩ := h.1 ⟨hf.2 w.1, w.2⟩
    exact ⟨h1, h2, hw _ (hf.2 w.1) h3⟩
  · exact h.2 (fun y => w ⟨hf.1 y.1, y.2⟩)
theorem RSr_scan {m x z s : Nat} {P P2 P' : (Nat → Int32) → Prop} {I I2 I3 : Nat → Nat → Int32} (hz : z < 2147483648) (h1 : RSr (m ≠ 0) P I I2 z s) (h2 : RSr (x ≠ 0) P2 I2 I3 z s) (hp : ∀ X, m ≠ 0 → P X → P' X) (hp2 : ∀ X, m = 0 → x ≠ 0 → P2 X → P' X) : RSr (m + x ≠ 0) P' I I3 z s := by
  by_cases q : I 89 55 = (-1 : Int32)
  · by_cases qm : m ≠ 0
    · obtain ⟨a1, a2, a3⟩ := h1.1 ⟨qm, q⟩
      obtain ⟨b1, b2, b3⟩ := h2.2 (fun w => nI_m1 hz (a1.symm.trans w.2))
      refine ⟨fun _ => ⟨b1.trans a1, b2.trans a2, by rw [b3]; exact hp _ qm a3⟩, fun w => absurd ⟨by omega, q⟩ w⟩
    · obtain ⟨a1, a2, a3⟩ := h1.2 (fun w => qm w.1)
      have qm0 : m = 0 := by omega
      by_cases qx : x ≠ 0
      · obtain ⟨b1, b2, b3⟩ := h2.1 ⟨qx, a1.trans q⟩
        exact ⟨fun _ => ⟨b1, b2, hp2 _ qm0 qx b3⟩, fun w => absurd ⟨by omega, q⟩ w⟩
      · obtain ⟨b1, b2, b3⟩ := h2.2 (fun w => qx w.1)
        exact ⟨fun w => absurd w.1 (by omega), fun _ => ⟨b1.trans a1, b2.trans a2, b3.trans a3⟩⟩
  · obtain ⟨a1, a2, a3⟩ := h1.2 (fun w => q w.2)
    obtain ⟨b1, b2, b3⟩ := h2.2 (fun w => q (a1.symm.trans w.2))
    exact ⟨fun w => absurd w.2 q, fun _ => ⟨b1.trans a1, b2.trans a2, b3.trans a3⟩⟩
def XR (I I' : Nat → Nat → Int32) : Prop := ∀ a k, a ≠ 120 → ¬ (a = 89 ∧ (k = 55 ∨ k = 56)) → I' a k = I a k
def XRJ (J J' : Nat → Nat → Int64) : Prop := ∀ a k, ¬ (a = 89 ∧ k = 58) → J' a k = J a k
theorem XR_r (I : Nat → Nat → Int32) : XR I I := fun _ _ _ _ => rfl
theorem XRJ_r (J : Nat → Nat → Int64) : XRJ J J := fun _ _ _ => rfl
theorem XR_t {I I' I2 : Nat → Nat → Int32} (h1 : XR I I') (h2 : XR I' I2) : XR I I2 := fun a k h3 h4 => (h2 a k h3 h4).trans (h1 a k h3 h4)
theorem XRJ_t {J J' J2 : Nat → Nat → Int64} (h1 : XRJ J J') (h2 : XRJ J' J2) : XRJ J J2 := fun a k h4 => (h2 a k h4).trans (h1 a k h4)
theorem XR_a {I I' : Nat → Nat → Int32} (h : XR I I') {a : Nat} (h1 : a ≠ 120) (h2 : a ≠ 89) : I' a = I a := funext (fun k => h a k h1 (by omega))
theorem XRJ_a {J J' : Nat → Nat → Int64} (h : XRJ J J') {a : Nat} (h2 : a ≠ 89) : J' a = J a := funext (fun k => h a k (by omega))
theorem XR_u {I I' : Nat → Nat → Int32} (h : XR I I') {a k : Nat} {v : Int32} (h1 : a = 120 ∨ (a = 89 ∧ (k = 55 ∨ k = 56))) : XR I (u2 I' a k v) := by
  intro b j h3 h4
  rw [show u2 I' a k v b j = I' b j from if_neg (by rintro ⟨rfl, rfl⟩; exact h1.elim h3 h4)]
  exact h b j h3 h4
/-- the figures of a set, as a row of three has them -/
def TR (s : Nat) (X : Nat → Int32) : Prop := ∀ k, k < sz s → X k = nI (th s k)
def CHt (s a b c : Nat) (X : Nat → Int32) : Prop := X (th s 0) = nI a ∧ (2 ≤ sz s → X (th s 1) = nI b) ∧ (3 ≤ sz s → X (th s 2) = nI c)
section MTK
variable {d : Nat} {g : aG} {I : Nat → Nat → Int32} {J : Nat → Nat → Int64} {Q : aQ}
theorem c_mTake (hg : Geo g) {s a b c W : Nat} {gd : Bool} (hs : s < 64) (h1 : 1 ≤ sz s) (h3 : sz s ≤ 3) (hT : TR s (I 121)) (hJ : J 89 58 = lN (min 1000000000 W)) (hQ : ∀ I' J', XR I I' → XRJ J J' → J' 89 58 = lN (min 1000000000 (W + gd.toNat)) → RSr (gd.toNat ≠ 0) (CHt s a b c) I I' (sz s) s → Q none (g, I', J')) : a_call aTab aMX (d + 2) m_Mo_take [.ref 89, .int (nI s), .int (bi gd), .int (nI a), .int (nI b), .int (nI c)] (g, I, J) Q := by
  have hpc : pcI (nI s) = sz s := sz_pc ⟨s, hs⟩
  rw [e_Mo_take, b_Mo_take_0]
  cases gd
  · rw [if_pos bi_F, b_Mo_take_4]
    exact hQ I J (XR_r I) (XRJ_r J) hJ (RSr_0 (by decide))
  rw [if_neg (by decide), b_Mo_take_5 hg, hJ]
  have rest : ∀ J2, XRJ J J2 → J2 89 58 = lN (min 1000000000 (W + 1)) → (if I 89 55 = (-1 : Int32) then a_wp aTab aMX (d + 1) m_Mo_take 41 [.ref 89, .int (nI s), aU, .int (nI a), .int (nI b), .int (nI c)] [] (g, I, J2) Q else a_wp aTab aMX (d + 1) m_Mo_take 108 [.ref 89, .int (nI s), aU, .int (nI a), .int (nI b), .int (nI c)] [] (g, I, J2) Q) := by
    intro J2 hXJ hJ2
    by_cases q : I 89 55 = (-1 : Int32)
    rotate_left
    · rw [if_neg q, b_Mo_take_108]
      exact hQ I J2 (XR_r I) hXJ hJ2 ⟨fun w => absurd w.2 q, fun _ => ⟨rfl, rfl, rfl⟩⟩
    rw [if_pos q, b_Mo_take_41, c_bits, hpc]
    simp only [exI]
    rw [b_Mo_take_46 hg]
    obtain ⟨I2, e2⟩ : ∃ I2, I2 = u2 (u2 I 89 55 (nI (sz s))) 89 56 (nI s) := ⟨_, rfl⟩
    have X2 : XR I I2 := by rw [e2]; exact XR_u (XR_u (XR_r I) (by omega)) (by omega)
    have f55 : I2 89 55 = nI (sz s) := by rw [e2, u2_k (by decide), u2_s]
    have f56 : I2 89 56 = nI s := by rw [e2, u2_s]
    have f121 : I2 121 = I 121 := XR_a X2 (by decide) (by decide)
    have t0 := th_s hs (show 0 < sz s by omega)
    have q0 := t0.1
    have e0 : I2 121 0 = nI (th s 0) := by rw [f121]; exact hT 0 (by omega)
    rw [← e2]
    have hz : sz s = 1 ∨ sz s = 2 ∨ sz s = 3 := by omega
    rcases hz with e | e | e
    · have g55 : ∀ v, u2 I2 120 (th s 0) v 89 55 = nI 1 := fun v => by rw [u2_a (by decide), f55, e]
      simp (disch := omega) only [b_Mo_take_87 hg, b_Mo_take_108, ↓reduceIte, nadd, nmul, nsub, nlt, neq, ncl, nvi, ndiv, nrem, exI, exJ, exV, eq_self, true_and, and_true, true_or, or_true, if_true, if_false, not_true, not_false_eq_true, false_and, and_false, decide_true, decide_false, bi_T, bi_F, bi_0, bi_1, bi_z, bft, n10, n01, Nat.reduceEqDiff, Nat.reduceLT, Nat.reduceAdd, Nat.reduceMul, reduceCtorEq, e0, q0, g55]
      refine hQ _ _ (XR_u X2 (by omega)) hXJ hJ2 ⟨fun _ => ⟨?_, ?_, ?_, fun w => absurd w (by omega), fun w => absurd w (by omega)⟩, fun w => absurd ⟨by decide, q⟩ w⟩
      · rw [u2_a (by decide)]; exact f55
      · rw [u2_a (by decide)]; exact f56
      · rw [u2_s]
    · have t1 := th_s hs (show 1 < sz s by omega)
      have q1 := t1.1
      have g55 : ∀ v, u2 I2 120 (th s 0) v 89 55 = nI 2 := fun v => by rw [u2_a (by decide), f55, e]
      have g55' : ∀ v w, u2 (u2 I2 120 (th s 0) v) 120 (th s 1) w 89 55 = nI 2 := fun v w => by rw [u2_a (by decide), u2_a (by decide), f55, e]
      have e1 : ∀ v, u2 I2 120 (th s 0) v 121 1 = nI (th s 1) := fun v => by rw [u2_a (by decide), f121]; exact hT 1 (by omega)
      simp (disch := omega) only [b_Mo_take_74 hg, b_Mo_take_87 hg, b_Mo_take_108, ↓reduceIte, nadd, nmul, nsub, nlt, neq, ncl, nvi, ndiv, nrem, exI, exJ, exV, eq_self, true_and, and_true, true_or, or_true, if_true, if_false, not_true, not_false_eq_true, false_and, and_false, decide_true, decide_false, bi_T, bi_F, bi_0, bi_1, bi_z, bft, n10, n01, Nat.reduceEqDiff, Nat.reduceLT, Nat.reduceAdd, Nat.reduceMul, reduceCtorEq, e0, q0, g55, e1, q1, g55']
      refine hQ _ _ (XR_u (XR_u X2 (by omega)) (by omega)) hXJ hJ2 ⟨fun _ => ⟨?_, ?_, ?_, fun _ => ?_, fun w => absurd w (by omega)⟩, fun w => absurd ⟨by decide, q⟩ w⟩
      · rw [u2_a (by decide), u2_a (by decide)]; exact f55
      · rw [u2_a (by decide), u2_a (by decide)]; exact f56
      · rw [u2_k (th_ne hs (by omega) (by omega) (by decide)), u2_s]
      · rw [u2_s]
    · have t1 := th_s hs (show 1 < sz s by omega)
      have q1 := t1.1
      have t2 := th_s hs (show 2 < sz s by omega)
      have q2 := t2.1
      have g55 : ∀ v, u2 I2 120 (th s 0) v 89 55 = nI 3 := fun v => by rw [u2_a (by decide), f55, e]
      have g55' : ∀ v w, u2 (u2 I2 120 (th s 0) v) 120 (th s 1) w 89 55 = nI 3 := fun v w => by rw [u2_a (by decide), u2_a (by decide), f55, e]
      have e1 : ∀ v, u2 I2 120 (th s 0) v 121 1 = nI (th s 1) := fun v => by rw [u2_a (by decide), f121]; exact hT 1 (by omega)
      have e2' : ∀ v w, u2 (u2 I2 120 (th s 0) v) 120 (th s 1) w 121 2 = nI (th s 2) := fun v w => by rw [u2_a (by decide), u2_a (by decide), f121]; exact hT 2 (by omega)
      simp (disch := omega) only [b_Mo_take_74 hg, b_Mo_take_87 hg, b_Mo_take_95 hg, b_Mo_take_108, ↓reduceIte, nadd, nmul, nsub, nlt, neq, ncl, nvi, ndiv, nrem, exI, exJ, exV, eq_self, true_and, and_true, true_or, or_true, if_true, if_false, not_true, not_false_eq_true, false_and, and_false, decide_true, decide_false, bi_T, bi_F, bi_0, bi_1, bi_z, bft, n10, n01, Nat.reduceEqDiff, Nat.reduceLT, Nat.reduceAdd, Nat.reduceMul, reduceCtorEq, e0, q0, g55, e1, q1, g55', e2', q2]
      refine hQ _ _ (XR_u (XR_u (XR_u X2 (by omega)) (by omega)) (by omega)) hXJ hJ2 ⟨fun _ => ⟨?_, ?_, ?_, fun _ => ?_, fun _ => ?_⟩, fun w => absurd ⟨by decide, q⟩ w⟩
      · rw [u2_a (by decide), u2_a (by decide), u2_a (by decide)]; exact f55
      · rw [u2_a (by decide), u2_a (by decide), u2_a (by decide)]; exact f56
      · rw [u2_k (th_ne hs (by omega) (by omega) (by decide)), u2_k (th_ne hs (by omega) (by omega) (by decide)), u2_s]
      · rw [u2_k (th_ne hs (by omega) (by omega) (by decide)), u2_s]
      · rw [u2_s]
  by_cases q : min 1000000000 W < 1000000000
  · rw [if_pos ((lN_lt (by omega) (by omega)).2 q), b_Mo_take_17 hg, hJ, lN_add, b_Mo_take_30 hg]
    refine rest _ (fun a k h => if_neg h) ?_
    rw [u2_s, show min 1000000000 W + 1 = min 1000000000 (W + 1) by omega]
  · rw [if_neg (fun w => q ((lN_lt (by omega) (by omega)).1 w)), b_Mo_take_26 hg, hJ, b_Mo_take_30 hg]
    refine rest _ (fun a k h => if_neg h) ?_
    rw [u2_s, show min 1000000000 W = min 1000000000 (W + 1) by omega]
theorem c_mMaskAt (hg : Geo g) {s k i : Nat} {L : List (Nat × Nat)} (hs : s < 64) (h3 : sz s ≤ 3) (hk : k < sz s) (hT : TR s (I 121)) (hR : RLs (th s k) L I J) (hi : i < L.length) (hl : L.length ≤ 1632) : a_call aTab aMX (d + 1) m_Mo_maskAt [.ref 89, .int (nI k), .int (nI i)] (g, I, J) Q = Q (some (.long (lN (LM L i)))) (g, I, J) := by
  have t := th_s hs hk
  have q := t.1
  have q2 : k < 3 := by omega
  have q3 : 4096 * th s k + i < 24576 := by omega
  rw [e_Mo_maskAt, b_Mo_maskAt_0 hg]
  simp (disch := omega) only [↓reduceIte, nadd, nmul, nsub, nlt, neq, ncl, nvi, ndiv, nrem, exI, exJ, exV, eq_self, true_and, and_true, true_or, or_true, if_true, if_false, not_true, not_false_eq_true, false_and, and_false, decide_true, decide_false, bi_T, bi_F, bi_0, bi_1, bi_z, bft, n10, n01, Nat.reduceEqDiff, Nat.reduceLT, Nat.reduceAdd, Nat.reduceMul, reduceCtorEq, hT k hk, q2, q3, (hR.2 i hi).1]
end MTK
