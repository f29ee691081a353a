/-! ===== the reference finds what a cast can make ===== -/
noncomputable def wZ (fu : Nat) (A : Nat → List (Nat × Nat)) (c z t : Nat) : Nat := if sz t = z then wM fu A c t else 0
noncomputable def totZ (fu : Nat) (A : Nat → List (Nat × Nat)) (c z n : Nat) : Nat := fb_sm (fun y => fb_sm (wZ fu A c (y + 1)) 64) (z - 1) + fb_sm (wZ fu A c z) n
theorem wZ_n {fu c z t : Nat} {A : Nat → List (Nat × Nat)} (h : ¬ sz t = z) : wZ fu A c z t = 0 := if_neg h
theorem wZ_y {fu c z t : Nat} {A : Nat → List (Nat × Nat)} (h : sz t = z) : wZ fu A c z t = wM fu A c t := if_pos h
theorem totZ_all {fu c : Nat} {A : Nat → List (Nat × Nat)} : totZ fu A c 4 0 = totW fu A c := by
  show fb_sm (fun y => fb_sm (wZ fu A c (y + 1)) 64) 3 + 0 = fb_sm (wM fu A c) 64
  show 0 + fb_sm (wZ fu A c 1) 64 + fb_sm (wZ fu A c 2) 64 + fb_sm (wZ fu A c 3) 64 + 0 = _
  rw [Nat.zero_add, Nat.add_zero, ← fb_sm_add, ← fb_sm_add]
  refine fb_sm_cong (fun t ht => ?_)
  show wZ fu A c 1 t + wZ fu A c 2 t + wZ fu A c 3 t = wM fu A c t
  by_cases q : inM c t
  · have h3 := q.2.2
    have h1 : 1 ≤ sz t := sz_p ⟨t, ht⟩ q.1
    have hz : sz t = 1 ∨ sz t = 2 ∨ sz t = 3 := by omega
    rcases hz with e | e | e
    · rw [wZ_y e, wZ_n (by omega), wZ_n (by omega)]; omega
    · rw [wZ_y e, wZ_n (by omega), wZ_n (by omega)]; omega
    · rw [wZ_y e, wZ_n (by omega), wZ_n (by omega)]; omega
  · have z := wM_n (fu := fu) (A := A) q
    have : ∀ y, wZ fu A c y t = 0 := by
      intro y
      unfold wZ
      split
      · exact z
      · rfl
    rw [this, this, this, z]
theorem totZ_0 {fu c z n t : Nat} {A : Nat → List (Nat × Nat)} (h : totZ fu A c z n = 0) (hz : 1 ≤ z) (ht : t < 64) (h1 : 1 ≤ sz t) (hl : sz t < z ∨ (sz t = z ∧ t < n)) : wM fu A c t = 0 := by
  unfold totZ at h
  rcases hl with q | ⟨q, q2⟩
  · have e1 : fb_sm (fun y => fb_sm (wZ fu A c (y + 1)) 64) (z - 1) = 0 := by omega
    have e2 := fb_sm_zero e1 (sz t - 1) (by omega)
    have e3 := fb_sm_zero e2 t ht
    rw [show sz t - 1 + 1 = sz t by omega, wZ_y rfl] at e3
    exact e3
  · have e1 : fb_sm (wZ fu A c z) n = 0 := by omega
    have e3 := fb_sm_zero e1 t q2
    rw [wZ_y q] at e3
    exact e3
def MDr (fu : Nat) (A : Nat → List (Nat × Nat)) (c z n : Nat) (I : Nat → Nat → Int32) : Prop := (totZ fu A c z n = 0 → I 89 55 = (-1 : Int32) ∧ I 89 56 = nI 0) ∧ (totZ fu A c z n ≠ 0 → ∃ t, BST fu A c 64 t ∧ I 89 55 = nI (sz t) ∧ I 89 56 = nI t ∧ CHO fu A t (fun _ i => i) (I 120))
theorem MDr_e {fu c z n z' n' : Nat} {A : Nat → List (Nat × Nat)} {I : Nat → Nat → Int32} (h : MDr fu A c z n I) (e : totZ fu A c z' n' = totZ fu A c z n) : MDr fu A c z' n' I := by
  unfold MDr at h ⊢
  rw [e]
  exact h
theorem MDr_R {fu c z n : Nat} {A : Nat → List (Nat × Nat)} {I I2 : Nat → Nat → Int32} (hn : n < 64) (hm : inM c n) (hz : sz n = z) (h1 : 1 ≤ z) (h : MDr fu A c z n I) (hR : RSr (wS fu A n ≠ 0) (CHO fu A n (fun _ i => i)) I I2 (sz n) n) : MDr fu A c z (n + 1) I2 := by
  have ew := wM_y (fu := fu) (A := A) hm
  have es : totZ fu A c z (n + 1) = totZ fu A c z n + wS fu A n := by
    unfold totZ
    rw [fb_sm_succ, wZ_y hz, ew, Nat.add_assoc]
  have z3 := hm.2.2
  unfold MDr at h ⊢
  rw [es]
  by_cases q0 : totZ fu A c z n = 0
  · obtain ⟨a1, a2⟩ := h.1 q0
    by_cases q : wS fu A n = 0
    · obtain ⟨b1, b2, b3⟩ := hR.2 (fun w => w.1 q)
      rw [b1, b2]
      exact ⟨fun _ => ⟨a1, a2⟩, fun w => absurd (by omega) w⟩
    · obtain ⟨b1, b2, b3⟩ := hR.1 ⟨q, a1⟩
      refine ⟨fun w => absurd w (by omega), fun _ => ⟨n, ⟨hn, by rw [ew]; exact q, fun t' h3 h4 => ?_⟩, b1, b2, b3⟩⟩
      have hi := wM_in h4
      have h1' : 1 ≤ sz t' := sz_p ⟨t', h3⟩ hi.1
      apply Classical.byContradiction
      intro y
      exact h4 (totZ_0 q0 h1 h3 h1' (by omega))
  · obtain ⟨t, h2, a1, a2, a3⟩ := h.2 q0
    have ht3 := (wM_in h2.2.1).2.2
    obtain ⟨b1, b2, b3⟩ := hR.2 (fun w => nI_m1 (show sz t < 2147483648 by omega) (a1.symm.trans w.2))
    rw [b1, b2, b3]
    exact ⟨fun w => absurd w (by omega), fun _ => ⟨t, h2, a1, a2, a3⟩⟩
/-- what finding leaves as it was -/
def XF (I I' : Nat → Nat → Int32) (J J' : Nat → Nat → Int64) : Prop := (∀ a k, ¬ (116 ≤ a ∧ a ≤ 121) → ¬ (a = 89 ∧ (k = 55 ∨ k = 56)) → I' a k = I a k) ∧ (∀ a k, a ≠ 115 → ¬ (a = 89 ∧ k = 58) → J' a k = J a k)
section FMD
variable {d : Nat} {g : aG} {I : Nat → Nat → Int32} {J : Nat → Nat → Int64} {Q : aQ} {S : Nat → Nat → Nat} {T : Nat → Int32}
theorem c_findMade (hg : Geo g) (hB : SB S) (hM : MS S T (I 91)) (hc64 : tCells T ≤ 64) (h49 : I 89 49 = nI (tCells T)) (hCL : CL T 512 (I 114) (I 113)) {c : Nat} (hc : c < 64) (hQ : ∀ I' J', XF I I' J J' → (tCells T = 0 → I' 89 55 = nI 0 ∧ I' 89 56 = nI 0 ∧ J' 89 58 = lN 1) → (tCells T ≠ 0 → J' 89 58 = lN (min 1000000000 (totW (2 ^ tCells T - 1) (fun f => plL S T f (nPl S)) c)) ∧ MADE (2 ^ tCells T - 1) (fun f => plL S T f (nPl S)) c 64 (fun _ i => i) (I' 89 55) (I' 89 56) (I' 120) ∧ ∀ f, f < 6 → c.testBit f = true → RLs f (plL S T f (nPl S)) I' J') → Q none (g, I', J')) : a_call aTab aMX (d + 5) m_Mo_findMade [.ref 89, .int (nI c)] (g, I, J) Q := by
  obtain ⟨A, eA⟩ : ∃ A : Nat → List (Nat × Nat), A = fun f => plL S T f (nPl S) := ⟨_, rfl⟩
  have eAf : ∀ f, plL S T f (nPl S) = A f := fun f => by rw [eA]
  obtain ⟨fu, efu⟩ : ∃ fu, fu = 2 ^ tCells T - 1 := ⟨_, rfl⟩
  have hL : ∀ f, f < 6 → mOk (A f) ∧ (A f).length ≤ 1632 ∧ ∀ i, i < (A f).length → sbs (LM (A f) i) fu := fun f hf => by rw [← eAf, efu]; exact ⟨plL_ok hc64 _, plL_all hB, plL_fu _⟩
  simp only [← eA, ← efu, eAf] at hQ
  rw [e_Mo_findMade, b_Mo_findMade_0 hg]
  have e49 : u2 (u2 I 89 55 (-1 : Int32)) 89 56 (nI 0) 89 49 = nI (tCells T) := by rw [u2_k (by decide), u2_k (by decide)]; exact h49
  rw [e49, req (by omega) (by omega)]
  have hX0 : XF I (u2 (u2 I 89 55 (-1 : Int32)) 89 56 (nI 0)) J (u2 J 89 58 (lN 0)) := by
    refine ⟨fun a k h1 h2 => ?_, fun a k h1 h2 => if_neg h2⟩
    rw [show u2 (u2 I 89 55 (-1 : Int32)) 89 56 (nI 0) a k = u2 I 89 55 (-1 : Int32) a k from if_neg (by omega), show u2 I 89 55 (-1 : Int32) a k = I a k from if_neg (by omega)]
  by_cases qz : tCells T = 0
  · rw [if_pos qz, b_Mo_findMade_22 hg]
    refine hQ _ _ ⟨fun a k h1 h2 => ?_, fun a k h1 h2 => ?_⟩ (fun _ => ⟨u2_s, by rw [u2_k (by decide), u2_s], u2_s⟩) (fun z => absurd qz z)
    · rw [show u2 (u2 (u2 I 89 55 (-1 : Int32)) 89 56 (nI 0)) 89 55 (nI 0) a k = u2 (u2 I 89 55 (-1 : Int32)) 89 56 (nI 0) a k from if_neg (by omega)]
      exact hX0.1 a k h1 h2
    · rw [show u2 (u2 J 89 58 (lN 0)) 89 58 (lN 1) a k = u2 J 89 58 (lN 0) a k from if_neg (by omega)]
      exact hX0.2 a k h1 h2
  rw [if_neg qz, b_Mo_findMade_33]
  have g55 : u2 (u2 I 89 55 (-1 : Int32)) 89 56 (nI 0) 89 55 = (-1 : Int32) := by rw [u2_k (by decide), u2_s]
  have g56 : u2 (u2 I 89 55 (-1 : Int32)) 89 56 (nI 0) 89 56 = nI 0 := u2_s
  have g58 : u2 J 89 58 (lN 0) 89 58 = lN 0 := u2_s
  generalize u2 (u2 I 89 55 (-1 : Int32)) 89 56 (nI 0) = I1 at *
  generalize u2 J 89 58 (lN 0) = J1 at *
  -- the sizes and sets
  have sets : ∀ z, z ≤ 4 → 1 ≤ z → ∀ I2 J2, XF I I2 J J2 → I2 89 49 = nI (tCells T) → (∀ f, f < 6 → c.testBit f = true → RLs f (A f) I2 J2) → J2 89 58 = lN (min 1000000000 (totZ fu A c z 0)) → MDr fu A c z 0 I2 → ∀ v3, a_wp aTab aMX (d + 4) m_Mo_findMade 69 [.ref 89, .int (nI c), .int (nI z), v3] [] (g, I2, J2) Q := by
    refine dn ?_ ?_
    · intro _ I2 J2 hX f49 hA h58 hD v3
      rw [b_Mo_findMade_69, rlt (by omega) (by omega), if_pos (by omega), b_Mo_findMade_116]
      unfold MDr at hD
      rw [totZ_all] at h58 hD
      exact hQ I2 J2 hX (fun z => absurd z qz) (fun _ => ⟨h58, hD, hA⟩)
    · intro z hz ih hz1 I2 J2 hX f49 hA h58 hD v3
      rw [b_Mo_findMade_69, rlt (by omega) (by omega), if_neg (by omega), b_Mo_findMade_74]
      refine dn (P := fun n => 1 ≤ n → ∀ I3 J3, XF I I3 J J3 → I3 89 49 = nI (tCells T) → (∀ f, f < 6 → c.testBit f = true → RLs f (A f) I3 J3) → J3 89 58 = lN (min 1000000000 (totZ fu A c z n)) → MDr fu A c z n I3 → a_wp aTab aMX (d + 4) m_Mo_findMade 76 [.ref 89, .int (nI c), .int (nI z), .int (nI n)] [] (g, I3, J3) Q) (n := 64) ?_ ?_ 1 (by omega) (by omega) I2 J2 hX f49 hA ?_ ?_
      · intro _ I3 J3 hX3 f3 hA3 h3 hD3
        rw [b_Mo_findMade_76, rlt (by omega) (by omega), if_neg (by omega), b_Mo_findMade_110, nadd]
        have e : totZ fu A c (z + 1) 0 = totZ fu A c z 64 := by
          unfold totZ
          obtain ⟨y, rfl⟩ : ∃ y, z = y + 1 := ⟨z - 1, by omega⟩
          rw [show y + 1 + 1 - 1 = y + 1 by omega, show y + 1 - 1 = y by omega, fb_sm_succ]
          rfl
        exact ih (by omega) I3 J3 hX3 f3 hA3 (by rw [e]; exact h3) (MDr_e hD3 e) _
      · intro n hn ihn hn1 I3 J3 hX3 f3 hA3 h3 hD3
        have hpc : pcI (nI n) = sz n := sz_pc ⟨n, hn⟩
        have hz6 : sz n ≤ 6 := fb_ct_le _ 6
        have skip : ¬ (sz n = z ∧ inM c n) → a_wp aTab aMX (d + 4) m_Mo_findMade 104 [.ref 89, .int (nI c), .int (nI z), .int (nI n)] [] (g, I3, J3) Q := by
          intro hno
          rw [b_Mo_findMade_104, nadd]
          have e : totZ fu A c z (n + 1) = totZ fu A c z n := by
            unfold totZ
            rw [fb_sm_succ]
            have : wZ fu A c z n = 0 := by
              by_cases y : sz n = z
              · rw [wZ_y y]; exact wM_n (fun w => hno ⟨y, w⟩)
              · exact wZ_n y
            rw [this, Nat.add_zero]
          exact ihn (by omega) I3 J3 hX3 f3 hA3 (by rw [e]; exact h3) (MDr_e hD3 e)
        rw [b_Mo_findMade_76, rlt (by omega) (by omega), if_pos hn, b_Mo_findMade_82, c_bits, hpc]
        simp only [exI]
        rw [b_Mo_findMade_86, req (by omega) (by omega)]
        by_cases q1 : sz n = z
        rotate_left
        · rw [if_neg q1]
          exact skip (fun w => q1 w.1)
        rw [if_pos q1, b_Mo_findMade_90, rsub hn hc]
        by_cases q2 : n &&& c = n
        rotate_left
        · rw [if_neg q2]
          exact skip (fun w => q2 w.2.2.1)
        have hm : inM c n := ⟨by omega, q2, by omega⟩
        rw [if_pos q2, b_Mo_findMade_98 hg, ← q1]
        refine c_goOver (fu := fu) (A := A) (n := tCells T) (W := totZ fu A c z n) hg hn (by omega) (by omega) (fun f hf hb => hA3 f hf (inM_bit hm hb)) hL f3 hc64 efu h3 ?_
        intro I4 J4 hX4 hXJ4 h4 hR4
        simp only [exV, true_and]
        rw [b_Mo_findMade_104, nadd, q1]
        have es : totZ fu A c z (n + 1) = totZ fu A c z n + wS fu A n := by
          unfold totZ
          rw [fb_sm_succ, wZ_y q1, wM_y hm, Nat.add_assoc]
        refine ihn (by omega) I4 J4 ⟨fun a k h1 h2 => ?_, fun a k h1 h2 => ?_⟩ ?_ (fun f hf hb => ?_) (by rw [es]; exact h4) (MDr_R hn hm q1 hz1 hD3 hR4)
        · rw [hX4 a k (by omega) (by omega) h2]; exact hX3.1 a k h1 h2
        · rw [hXJ4 a k h2]; exact hX3.2 a k h1 h2
        · rw [hX4 89 49 (by decide) (by decide) (by omega)]; exact f3
        · have := hA3 f hf hb
          unfold RLs at this ⊢
          rw [show I4 117 = I3 117 from funext (fun k => hX4 117 k (by decide) (by decide) (by omega)), show I4 116 = I3 116 from funext (fun k => hX4 116 k (by decide) (by decide) (by omega)), XRJ_a hXJ4 (show 115 ≠ 89 by decide)]
          exact this
      · have e : totZ fu A c z 1 = totZ fu A c z 0 := by
          unfold totZ
          show _ + (0 + wZ fu A c z 0) = _ + 0
          rw [show wZ fu A c z 0 = 0 from wZ_n (by show ¬ sz 0 = z; rw [show sz 0 = 0 from rfl]; omega)]
        rw [e]; exact h58
      · have e : totZ fu A c z 1 = totZ fu A c z 0 := by
          unfold totZ
          show _ + (0 + wZ fu A c z 0) = _ + 0
          rw [show wZ fu A c z 0 = 0 from wZ_n (by show ¬ sz 0 = z; rw [show sz 0 = 0 from rfl]; omega)]
        exact MDr_e hD e
  -- the figures' shadows
  refine dn (P := fun f => ∀ I2 J2, XF I I2 J J2 → I2 89 = I1 89 → J2 89 = J1 89 → (∀ f', f' < f → c.testBit f' = true → RLs f' (A f') I2 J2) → a_wp aTab aMX (d + 4) m_Mo_findMade 35 [.ref 89, .int (nI c), .int (nI f), aU] [] (g, I2, J2) Q) (n := 6) ?_ ?_ 0 (by omega) I1 J1 hX0 rfl rfl (fun f' h => absurd h (by omega))
  · intro I2 J2 hX e89 j89 hA
    rw [b_Mo_findMade_35, rlt (by omega) (by omega), if_neg (by omega), b_Mo_findMade_67]
    have z0 : totZ fu A c 1 0 = 0 := rfl
    refine sets 1 (by omega) (by omega) I2 J2 hX (by rw [e89]; exact e49) hA (by rw [j89, g58, z0]; rfl) ⟨fun _ => ⟨by rw [e89]; exact g55, by rw [e89]; exact g56⟩, fun w => absurd z0 w⟩ _
  · intro f hf ih I2 J2 hX e89 j89 hA
    rw [b_Mo_findMade_35, rlt (by omega) (by omega), if_pos hf, b_Mo_findMade_41 hg]
    simp (disch := omega) only [↓reduceIte, nadd, nmul, nsub, nlt, neq, ncl, nvi, ndiv, nrem, exI, exJ, exV, eq_self, true_and, and_true, true_or, or_true, if_true, if_false, not_true, not_false_eq_true, false_and, and_false, decide_true, decide_false, bi_T, bi_F, bi_0, bi_1, bi_z, bft, n10, n01, Nat.reduceEqDiff, Nat.reduceLT, Nat.reduceAdd, Nat.reduceMul, reduceCtorEq, hf]
    rw [c_is _ (by omega), bt_nI (by omega)]
    simp only [exI]
    rw [b_Mo_findMade_53]
    have hX2 : XF I (u2 I2 117 f (nI 0)) J J2 := ⟨fun a k h1 h2 => by rw [u2_a (by omega)]; exact hX.1 a k h1 h2, hX.2⟩
    have hA2 : ∀ f', f' < f → c.testBit f' = true → RLs f' (A f') (u2 I2 117 f (nI 0)) J2 := by
      intro f' h1 h2
      have := hA f' h1 h2
      unfold RLs at this ⊢
      rw [u2_k (by omega), u2_r (by decide)]
      exact this
    have e89' : u2 I2 117 f (nI 0) 89 = I1 89 := by rw [u2_r (by decide)]; exact e89
    generalize u2 I2 117 f (nI 0) = I3 at *
    cases qb : c.testBit f
    · rw [if_pos bi_F, b_Mo_findMade_61, nadd]
      refine ih I3 J2 hX2 e89' j89 (fun f' h1 h2 => ?_)
      by_cases q : f' = f
      · rw [q, qb] at h2; cases h2
      · exact hA2 f' (by omega) h2
    · rw [if_neg (by decide), b_Mo_findMade_56 hg]
      have m91 : I3 91 = I 91 := funext (fun k => hX2.1 91 k (by omega) (by omega))
      refine c_findShadows (S := S) (T := T) hg hB (by rw [m91]; exact hM) hc64 (by rw [e89']; exact e49) (by rw [show I3 114 = I 114 from funext (fun k => hX2.1 114 k (by omega) (by omega)), show I3 113 = I 113 from funext (fun k => hX2.1 113 k (by omega) (by omega))]; exact hCL) hf ?_
      intro I4 J4 hF hR
      simp only [exV, true_and]
      rw [b_Mo_findMade_61, nadd]
      rw [eAf] at hR
      refine ih I4 J4 ⟨fun a k h1 h2 => ?_, fun a k h1 h2 => ?_⟩ ?_ ?_ (fun f' h1 h2 => ?_)
      · rw [hF.1 a (by omega) (by omega) (by omega) (by omega)]; exact hX2.1 a k h1 h2
      · rw [hF.2.2.2 a h1]; exact hX2.2 a k h1 h2
      · rw [hF.1 89 (by decide) (by decide) (by decide) (by decide)]; exact e89'
      · rw [hF.2.2.2 89 (by decide)]; exact j89
      · by_cases q : f' = f
        · rw [q]; exact hR
        · have := hA2 f' (by omega) h2
          have hl := (hL f' (by omega)).2.1
          unfold RLs at this ⊢
          refine ⟨by rw [hF.2.1 f' q]; exact this.1, fun i hi => ?_⟩
          have w := hF.2.2.1 (4096 * f' + i) (by omega)
          rw [w.1, w.2]
          exact this.2 i hi
end FMD
