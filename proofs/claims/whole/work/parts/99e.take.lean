/-! ===== scenes are taken over ===== -/
def SCo (g : aG) (r : Nat) : Prop := gK g r = 8 ∧ (gR g r 3 = r + 1 ∧ gR g r 4 = r + 2 ∧ gR g r 5 = r + 3 ∧ gR g r 6 = r + 4 ∧ gR g r 7 = r + 5) ∧ (gK g (r + 1) = 12 ∧ gK g (r + 2) = 12 ∧ gK g (r + 3) = 12 ∧ gK g (r + 4) = 12 ∧ gK g (r + 5) = 12) ∧ (gN g (r + 1) = 24 ∧ gN g (r + 2) = 24 ∧ gN g (r + 3) = 24 ∧ gN g (r + 4) = 24 ∧ gN g (r + 5) = 400)
def SO (g : aG) (r : Nat) : Prop := gK g r = 7 ∧ (gR g r 1 = r + 1 ∧ gR g r 2 = r + 2 ∧ gR g r 3 = r + 3 ∧ gR g r 4 = r + 4 ∧ gR g r 5 = r + 5 ∧ gR g r 6 = r + 6 ∧ gR g r 7 = r + 7 ∧ gR g r 8 = r + 8) ∧ (gK g (r + 1) = 12 ∧ gK g (r + 2) = 12 ∧ gK g (r + 3) = 12 ∧ gK g (r + 4) = 12 ∧ gK g (r + 5) = 12 ∧ gK g (r + 6) = 12 ∧ gK g (r + 7) = 12) ∧ (gN g (r + 1) = 48 ∧ gN g (r + 2) = 6 ∧ gN g (r + 3) = 7 ∧ gN g (r + 4) = 72 ∧ gN g (r + 5) = 72 ∧ gN g (r + 6) = 72 ∧ gN g (r + 7) = 16) ∧ SCo g (r + 8)
theorem SO_7 {g : aG} (hg : Geo g) : SO g 7 := ⟨k_7 hg, ⟨r_7_1 hg, r_7_2 hg, r_7_3 hg, r_7_4 hg, r_7_5 hg, r_7_6 hg, r_7_7 hg, r_7_8 hg⟩, ⟨k_8 hg, k_9 hg, k_10 hg, k_11 hg, k_12 hg, k_13 hg, k_14 hg⟩, ⟨n_8 hg, n_9 hg, n_10 hg, n_11 hg, n_12 hg, n_13 hg, n_14 hg⟩, k_15 hg, ⟨r_15_3 hg, r_15_4 hg, r_15_5 hg, r_15_6 hg, r_15_7 hg⟩, ⟨k_16 hg, k_17 hg, k_18 hg, k_19 hg, k_20 hg⟩, ⟨n_16 hg, n_17 hg, n_18 hg, n_19 hg, n_20 hg⟩⟩
theorem SCo_24 {g : aG} (hg : Geo g) : SCo g 24 := ⟨k_24 hg, ⟨r_24_3 hg, r_24_4 hg, r_24_5 hg, r_24_6 hg, r_24_7 hg⟩, ⟨k_25 hg, k_26 hg, k_27 hg, k_28 hg, k_29 hg⟩, ⟨n_25 hg, n_26 hg, n_27 hg, n_28 hg, n_29 hg⟩⟩
theorem cp_n {f : Nat → Nat → Int32} {s d n b j : Nat} (h : b ≠ d ∨ ¬ j < n) : cpy2 f s 0 d 0 n b j = f b j := if_neg (by omega)
theorem cp_y {f : Nat → Nat → Int32} {s d n j : Nat} (h : j < n) : cpy2 f s 0 d 0 n d j = f s j := by
  show (if d = d ∧ 0 ≤ j ∧ j < 0 + n then f s (0 + (j - 0)) else f d j) = f s j
  rw [if_pos (by omega), show 0 + (j - 0) = j by omega]
section TKF
variable {d : Nat} {g : aG} {I : Nat → Nat → Int32} {J : Nat → Nat → Int64} {Q : aQ}
theorem c_sTake {r0 r1 : Nat} (h0 : SCo g r0) (h1 : SCo g r1) (hd : r1 + 6 ≤ r0 ∨ r0 + 6 ≤ r1) (hQ : ∀ I', (∀ j, j < 3 → I' r0 j = I r1 j) → (∀ i, 1 ≤ i → i ≤ 4 → ∀ j, j < 24 → I' (r0 + i) j = I (r1 + i) j) → (∀ j, j < 400 → I' (r0 + 5) j = I (r1 + 5) j) → (∀ a j, ¬ (a = r0 ∧ j < 3) → ¬ (r0 + 1 ≤ a ∧ a ≤ r0 + 4 ∧ j < 24) → ¬ (a = r0 + 5 ∧ j < 400) → I' a j = I a j) → Q none (g, I', J)) : a_call aTab aMX (d + 1) m_Script_takeFrom [.ref r0, .ref r1] (g, I, J) Q := by
  obtain ⟨a1, ⟨a3, a4, a5, a6, a7⟩, ⟨b3, b4, b5, b6, b7⟩, ⟨c3, c4, c5, c6, c7⟩⟩ := h0
  obtain ⟨a1', ⟨a3', a4', a5', a6', a7'⟩, ⟨b3', b4', b5', b6', b7'⟩, ⟨c3', c4', c5', c6', c7'⟩⟩ := h1
  rw [e_Script_takeFrom, b_Script_takeFrom_0]
  simp only [a1, a3, a4, a5, a6, a7, b3, b4, b5, b6, b7, c3, c4, c5, c6, c7, a1', a3', a4', a5', a6', a7', b3', b4', b5', b6', b7', c3', c4', c5', c6', c7']
  simp (disch := omega) only [ncl, nlt, Nat.not_lt_zero, not_false_eq_true, true_and, and_true, eq_self, and_self, Nat.reduceAdd, Nat.reduceLeDiff, Nat.le_refl, Nat.zero_add]
  refine hQ _ ?_ ?_ ?_ ?_
  · intro j hj
    rw [cp_n (by omega), cp_n (by omega), cp_n (by omega), cp_n (by omega), cp_n (by omega)]
    have hc : j = 0 ∨ j = 1 ∨ j = 2 := by omega
    rcases hc with rfl | rfl | rfl
    · rw [u2_k (by decide), u2_k (by decide), u2_s]
    · rw [u2_k (by decide), u2_s, u2_a (by omega)]
    · rw [u2_s, u2_a (by omega), u2_a (by omega)]
  · intro i h1 h2 j hj
    have hc : i = 1 ∨ i = 2 ∨ i = 3 ∨ i = 4 := by omega
    rcases hc with rfl | rfl | rfl | rfl
    · rw [cp_n (by omega), cp_n (by omega), cp_n (by omega), cp_n (by omega), cp_y hj, u2_a (by omega), u2_a (by omega), u2_a (by omega)]
    · rw [cp_n (by omega), cp_n (by omega), cp_n (by omega), cp_y hj, cp_n (by omega), u2_a (by omega), u2_a (by omega), u2_a (by omega)]
    · rw [cp_n (by omega), cp_n (by omega), cp_y hj, cp_n (by omega), cp_n (by omega), u2_a (by omega), u2_a (by omega), u2_a (by omega)]
    · rw [cp_n (by omega), cp_y hj, cp_n (by omega), cp_n (by omega), cp_n (by omega), u2_a (by omega), u2_a (by omega), u2_a (by omega)]
  · intro j hj
    rw [cp_y hj, cp_n (by omega), cp_n (by omega), cp_n (by omega), cp_n (by omega), u2_a (by omega), u2_a (by omega), u2_a (by omega)]
  · intro a j y1 y2 y3
    rw [cp_n (by omega), cp_n (by omega), cp_n (by omega), cp_n (by omega), cp_n (by omega)]
    rw [show ∀ v w x, u2 (u2 (u2 I r0 0 v) r0 1 w) r0 2 x a j = I a j from fun v w x => by
      rw [show u2 (u2 (u2 I r0 0 v) r0 1 w) r0 2 x a j = u2 (u2 I r0 0 v) r0 1 w a j from if_neg (by omega), show u2 (u2 I r0 0 v) r0 1 w a j = u2 I r0 0 v a j from if_neg (by omega), show u2 I r0 0 v a j = I a j from if_neg (by omega)]]
def lnS (i : Nat) : Nat := if i = 0 then 1 else if i = 1 then 48 else if i = 2 then 6 else if i = 3 then 7 else if i ≤ 6 then 72 else if i = 7 then 16 else if i = 8 then 3 else if i ≤ 12 then 24 else 400
theorem c_takeFrom {r0 r1 : Nat} (h0 : SO g r0) (h1 : SO g r1) (hd : r1 + 14 ≤ r0 ∨ r0 + 14 ≤ r1) (hQ : ∀ I', (∀ i, i < 14 → ∀ j, j < lnS i → I' (r0 + i) j = I (r1 + i) j) → (∀ a j, ¬ (r0 ≤ a ∧ a < r0 + 14 ∧ j < lnS (a - r0)) → I' a j = I a j) → Q none (g, I', J)) : a_call aTab aMX (d + 2) m_Scene_takeFrom [.ref r0, .ref r1] (g, I, J) Q := by
  obtain ⟨a0, ⟨a1, a2, a3, a4, a5, a6, a7, a8⟩, ⟨b1, b2, b3, b4, b5, b6, b7⟩, ⟨c1, c2, c3, c4, c5, c6, c7⟩, hs0⟩ := h0
  obtain ⟨a0', ⟨a1', a2', a3', a4', a5', a6', a7', a8'⟩, ⟨b1', b2', b3', b4', b5', b6', b7'⟩, ⟨c1', c2', c3', c4', c5', c6', c7'⟩, hs1⟩ := h1
  have k8 := hs0.1
  rw [e_Scene_takeFrom, b_Scene_takeFrom_0]
  simp only [a0, a1, a2, a3, a4, a5, a6, a7, a8, b1, b2, b3, b4, b5, b6, b7, c1, c2, c3, c4, c5, c6, c7, a0', a1', a2', a3', a4', a5', a6', a7', a8', b1', b2', b3', b4', b5', b6', b7', c1', c2', c3', c4', c5', c6', c7', k8]
  have aa : (a_arr 12 = true) = True := eq_true rfl
  simp (disch := omega) only [ncl, nlt, Nat.not_lt_zero, not_false_eq_true, true_and, and_true, eq_self, and_self, Nat.reduceAdd, Nat.reduceLeDiff, Nat.le_refl, Nat.zero_add, aa]
  refine c_sTake hs0 hs1 (by omega) ?_
  intro I' t1 t2 t3 t4
  refine ⟨rfl, ?_⟩
  rw [b_Scene_takeFrom_127]
  obtain ⟨X, eX⟩ : ∃ X, X = cpy2 (cpy2 (cpy2 (cpy2 (cpy2 (cpy2 (cpy2 (u2 I r0 0 (I r1 0)) (r1 + 1) 0 (r0 + 1) 0 48) (r1 + 2) 0 (r0 + 2) 0 6) (r1 + 3) 0 (r0 + 3) 0 7) (r1 + 4) 0 (r0 + 4) 0 72) (r1 + 5) 0 (r0 + 5) 0 72) (r1 + 6) 0 (r0 + 6) 0 72) (r1 + 7) 0 (r0 + 7) 0 16 := ⟨_, rfl⟩
  rw [← eX] at t1 t2 t3 t4
  -- what the rows of the first part hold
  have xo : ∀ a j, ¬ (r0 ≤ a ∧ a < r0 + 8) → X a j = I a j := fun a j h => by
    rw [eX, cp_n (by omega), cp_n (by omega), cp_n (by omega), cp_n (by omega), cp_n (by omega), cp_n (by omega), cp_n (by omega), u2_a (by omega)]
  refine hQ I' (fun i hi j hj => ?_) (fun a j h => ?_)
  · by_cases q8 : i < 8
    · rw [t4 (r0 + i) j (by omega) (by omega) (by omega), eX]
      have hc : i = 0 ∨ i = 1 ∨ i = 2 ∨ i = 3 ∨ i = 4 ∨ i = 5 ∨ i = 6 ∨ i = 7 := by omega
      rcases hc with rfl | rfl | rfl | rfl | rfl | rfl | rfl | rfl
      · have hj : j < 1 := hj
        have : j = 0 := by omega
        rw [this, cp_n (by omega), cp_n (by omega), cp_n (by omega), cp_n (by omega), cp_n (by omega), cp_n (by omega), cp_n (by omega)]
        exact u2_s
      · have hj : j < 48 := hj
        rw [cp_n (by omega), cp_n (by omega), cp_n (by omega), cp_n (by omega), cp_n (by omega), cp_n (by omega), cp_y hj, u2_a (by omega)]
      · have hj : j < 6 := hj
        rw [cp_n (by omega), cp_n (by omega), cp_n (by omega), cp_n (by omega), cp_n (by omega), cp_y hj, cp_n (by omega), u2_a (by omega)]
      · have hj : j < 7 := hj
        rw [cp_n (by omega), cp_n (by omega), cp_n (by omega), cp_n (by omega), cp_y hj, cp_n (by omega), cp_n (by omega), u2_a (by omega)]
      · have hj : j < 72 := hj
        rw [cp_n (by omega), cp_n (by omega), cp_n (by omega), cp_y hj, cp_n (by omega), cp_n (by omega), cp_n (by omega), u2_a (by omega)]
      · have hj : j < 72 := hj
        rw [cp_n (by omega), cp_n (by omega), cp_y hj, cp_n (by omega), cp_n (by omega), cp_n (by omega), cp_n (by omega), u2_a (by omega)]
      · have hj : j < 72 := hj
        rw [cp_n (by omega), cp_y hj, cp_n (by omega), cp_n (by omega), cp_n (by omega), cp_n (by omega), cp_n (by omega), u2_a (by omega)]
      · have hj : j < 16 := hj
        rw [cp_y hj, cp_n (by omega), cp_n (by omega), cp_n (by omega), cp_n (by omega), cp_n (by omega), cp_n (by omega), u2_a (by omega)]
    · have hc : i = 8 ∨ (9 ≤ i ∧ i ≤ 12) ∨ i = 13 := by omega
      rcases hc with rfl | hc | rfl
      · rw [t1 j hj, xo (r1 + 8) j (by omega)]
      · have hj : j < 24 := by
          unfold lnS at hj
          rw [if_neg (by omega), if_neg (by omega), if_neg (by omega), if_neg (by omega), if_neg (by omega), if_neg (by omega), if_neg (by omega), if_pos (by omega)] at hj
          exact hj
        have := t2 (i - 8) (by omega) (by omega) j hj
        rw [show r0 + 8 + (i - 8) = r0 + i by omega, show r1 + 8 + (i - 8) = r1 + i by omega] at this
        rw [this, xo (r1 + i) j (by omega)]
      · have := t3 j hj
        rw [show r0 + 8 + 5 = r0 + 13 by omega, show r1 + 8 + 5 = r1 + 13 by omega] at this
        rw [this, xo (r1 + 13) j (by omega)]
  · by_cases q : r0 ≤ a ∧ a < r0 + 14
    · obtain ⟨i, ei⟩ : ∃ i, a = r0 + i := ⟨a - r0, by omega⟩
      rw [ei, show r0 + i - r0 = i by omega] at h
      have hnl : ¬ j < lnS i := fun z => h ⟨by omega, by omega, z⟩
      rw [ei]
      have hc : i = 0 ∨ i = 1 ∨ i = 2 ∨ i = 3 ∨ i = 4 ∨ i = 5 ∨ i = 6 ∨ i = 7 ∨ i = 8 ∨ i = 9 ∨ i = 10 ∨ i = 11 ∨ i = 12 ∨ i = 13 := by omega
      have nn : ¬ (r0 + i = r0 + 8 ∧ j < 3) ∧ ¬ (r0 + 9 ≤ r0 + i ∧ r0 + i ≤ r0 + 12 ∧ j < 24) ∧ ¬ (r0 + i = r0 + 13 ∧ j < 400) ∧ ¬ (i = 0 ∧ j < 1) ∧ ¬ (i = 1 ∧ j < 48) ∧ ¬ (i = 2 ∧ j < 6) ∧ ¬ (i = 3 ∧ j < 7) ∧ ¬ (4 ≤ i ∧ i ≤ 6 ∧ j < 72) ∧ ¬ (i = 7 ∧ j < 16) := by
        rcases hc with rfl | rfl | rfl | rfl | rfl | rfl | rfl | rfl | rfl | rfl | rfl | rfl | rfl | rfl <;> (have hn2 := hnl; simp only [lnS] at hn2; simp at hn2; omega)
      rw [t4 (r0 + i) j (by omega) (by omega) (by omega), eX, cp_n (by omega), cp_n (by omega), cp_n (by omega), cp_n (by omega), cp_n (by omega), cp_n (by omega), cp_n (by omega)]
      exact if_neg (by omega)
    · rw [t4 a j (by omega) (by omega) (by omega)]
      exact xo a j (by omega)
end TKF
