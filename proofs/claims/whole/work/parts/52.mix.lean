/-! ===== the Planner: numbers split at a figure; mix ===== -/
section SPL
variable (hp hk : Nat)
def pl (p : Nat → Bool) : Nat → Nat
  | 0 => 1
  | j + 1 => if p (5 - j) then pl p j * bas hp hk else pl p j
def lw (p : Nat → Bool) (c : Nat) : Nat → Nat
  | 0 => 0
  | j + 1 => if p (5 - j) then dO hp (dg 6 c (5 - j)) * pl hp hk p j + lw p c j else lw p c j
variable {hp hk : Nat}
theorem ixm_s (p : Nat → Bool) (m c : Nat) : ixm hp hk p (m + 1) c = if p m then ixm hp hk p m (c / 4) * bas hp hk + dO hp (c % 4) else ixm hp hk p m (c / 4) := rfl
theorem pl_s (p : Nat → Bool) (j : Nat) : pl hp hk p (j + 1) = if p (5 - j) then pl hp hk p j * bas hp hk else pl hp hk p j := rfl
theorem lw_s (p : Nat → Bool) (c j : Nat) : lw hp hk p c (j + 1) = if p (5 - j) then dO hp (dg 6 c (5 - j)) * pl hp hk p j + lw hp hk p c j else lw hp hk p c j := rfl
theorem dg_j {c j : Nat} (hj : j < 6) : dg 6 c (5 - j) = c / 4 ^ j % 4 := by
  unfold dg
  rw [show 6 - 1 - (5 - j) = j by omega]
theorem ix_split (p : Nat → Bool) (c : Nat) : ∀ j, j ≤ 6 → ixm hp hk p 6 c = ixm hp hk p (6 - j) (c / 4 ^ j) * pl hp hk p j + lw hp hk p c j
  | 0, _ => by
    show _ = ixm hp hk p 6 (c / 1) * 1 + 0
    rw [Nat.div_one, Nat.mul_one, Nat.add_zero]
  | j + 1, hj => by
    rw [ix_split p c j (by omega)]
    have e1 : c / 4 ^ j / 4 = c / 4 ^ (j + 1) := by rw [Nat.div_div_eq_div_mul, Nat.pow_succ]
    rw [show 6 - j = (5 - j) + 1 by omega, show 6 - (j + 1) = 5 - j by omega, ixm_s, pl_s, lw_s, e1, dg_j (by omega)]
    cases p (5 - j)
    · rfl
    · show (ixm hp hk p (5 - j) (c / 4 ^ (j + 1)) * bas hp hk + dO hp (c / 4 ^ j % 4)) * pl hp hk p j + lw hp hk p c j = ixm hp hk p (5 - j) (c / 4 ^ (j + 1)) * (pl hp hk p j * bas hp hk) + (dO hp (c / 4 ^ j % 4) * pl hp hk p j + lw hp hk p c j)
      rw [Nat.add_mul, Nat.mul_assoc, Nat.mul_comm (bas hp hk), Nat.add_assoc]
theorem vd_split (p : Nat → Bool) (c : Nat) (h : vdm hp hk p 6 c = true) : ∀ j, j ≤ 6 → vdm hp hk p (6 - j) (c / 4 ^ j) = true
  | 0, _ => by
    show vdm hp hk p 6 (c / 1) = true
    rw [Nat.div_one]; exact h
  | j + 1, hj => by
    have ih := vd_split p c h j (by omega)
    rw [show 6 - j = (6 - (j + 1)) + 1 by omega] at ih
    unfold vdm at ih
    rw [Bool.and_eq_true, Nat.div_div_eq_div_mul, ← Nat.pow_succ] at ih
    exact ih.1
theorem vd_iff (p : Nat → Bool) (c : Nat) : vdm hp hk p 6 c = true ↔ ∀ j, j < 6 → (if p j then vh hp hk (dg 6 c j) else decide (dg 6 c j = 0)) = true := by
  have e : vdm hp hk p 6 c = aB (fun j => if p j then vh hp hk (dg 6 c j) else decide (dg 6 c j = 0)) 6 := by
    simp only [vdm, aB, dg_0, dg_1, dg_2, dg_3, dg_4, dg_5, Nat.div_div_eq_div_mul, Nat.reduceMul, Nat.div_one]
    rfl
  rw [e, aB_iff]
theorem lw_lt (p : Nat → Bool) (c : Nat) (h : vdm hp hk p 6 c = true) : ∀ j, j ≤ 6 → lw hp hk p c j < pl hp hk p j
  | 0, _ => Nat.zero_lt_one
  | j + 1, hj => by
    have ih := lw_lt p c h j (by omega)
    have hv := (vd_iff p c).1 h (5 - j) (by omega)
    rw [lw_s, pl_s]
    cases q : p (5 - j)
    · exact ih
    · rw [q] at hv
      have := dO_lt hv
      show dO hp (dg 6 c (5 - j)) * pl hp hk p j + lw hp hk p c j < pl hp hk p j * bas hp hk
      have h2 : (dO hp (dg 6 c (5 - j)) + 1) * pl hp hk p j ≤ bas hp hk * pl hp hk p j := Nat.mul_le_mul_right _ this
      rw [Nat.add_mul, Nat.one_mul, Nat.mul_comm (bas hp hk)] at h2
      omega
theorem ixm_cong {p p2 : Nat → Bool} : ∀ m c, (∀ j, j < m → p j = p2 j) → ixm hp hk p m c = ixm hp hk p2 m c
  | 0, _, _ => rfl
  | m + 1, c, h => by
    unfold ixm
    rw [h m (by omega), ixm_cong m (c / 4) (fun j hj => h j (by omega))]
theorem pwm_cong {p p2 : Nat → Bool} : ∀ m, (∀ j, j < m → p j = p2 j) → pwm hp hk p m = pwm hp hk p2 m
  | 0, _ => rfl
  | m + 1, h => by
    unfold pwm
    rw [h m (by omega), pwm_cong m (fun j hj => h j (by omega))]
theorem pl_cong {p p2 : Nat → Bool} : ∀ j, j ≤ 6 → (∀ i, 6 - j ≤ i → i < 6 → p i = p2 i) → pl hp hk p j = pl hp hk p2 j
  | 0, _, _ => rfl
  | j + 1, hj, h => by
    unfold pl
    rw [h (5 - j) (by omega) (by omega), pl_cong j (by omega) (fun i h1 h2 => h i (by omega) h2)]
theorem lw_cong {p p2 : Nat → Bool} {c e : Nat} : ∀ j, j ≤ 6 → (∀ i, 6 - j ≤ i → i < 6 → p i = p2 i ∧ dg 6 c i = dg 6 e i) → lw hp hk p c j = lw hp hk p2 e j
  | 0, _, _ => rfl
  | j + 1, hj, h => by
    unfold lw
    rw [(h (5 - j) (by omega) (by omega)).1, (h (5 - j) (by omega) (by omega)).2, lw_cong j (by omega) (fun i h1 h2 => h i (by omega) h2), pl_cong j (by omega) (fun i h1 h2 => (h i (by omega) h2).1)]
theorem sd_hi {c f t : Nat} (hc : c < 4096) (hf : f < 6) (ht : t < 4) : sd c f t / 4 ^ (6 - f) = c / 4 ^ (6 - f) := by
  revert hf f
  apply six <;> (unfold sd; simp only [dg_0, dg_1, dg_2, dg_3, dg_4, dg_5, Nat.reduceSub, Nat.reducePow]; omega)
theorem pw_pow (p : Nat → Bool) : ∀ m, pwm hp hk p m = bas hp hk ^ fb_ct p m
  | 0 => rfl
  | m + 1 => by
    unfold pwm
    rw [fb_ct_succ, pw_pow p m]
    cases p m
    · rfl
    · exact (Nat.pow_succ _ _).symm
theorem pl_pow (p : Nat → Bool) : ∀ j, j ≤ 6 → pl hp hk p j = bas hp hk ^ fb_ct (fun i => p (6 - j + i)) j
  | 0, _ => rfl
  | j + 1, hj => by
    have e : fb_ct (fun i => p (6 - (j + 1) + i)) (j + 1) = (if p (5 - j) then 1 else 0) + fb_ct (fun i => p (6 - j + i)) j := by
      rw [Nat.add_comm j 1, fb_ct_split]
      congr 1
      · show 0 + (if p (6 - (1 + j) + 0) then 1 else 0) = _
        rw [show 6 - (1 + j) + 0 = 5 - j by omega, Nat.zero_add]
      · exact fb_ct_cong (fun k hk => by rw [show 6 - (1 + j) + (1 + k) = 6 - j + k by omega])
    unfold pl
    rw [e, pl_pow p j (by omega)]
    cases p (5 - j)
    · show _ = bas hp hk ^ (0 + _)
      rw [Nat.zero_add]; rfl
    · show _ * bas hp hk = bas hp hk ^ (1 + _)
      rw [Nat.add_comm, Nat.pow_succ]
end SPL
/-! mix -/
def fo (V : Nat → Nat × Nat) (ct : Nat → Nat) : Nat → Nat × Nat
  | 0 => (1000000, 0)
  | k + 1 => stp (fo V ct k) (if (V k).1 < 1000000 then (V k).1 + ct k else 1000000) (V k).2
theorem sl32b (n : Nat) : lN n <<< (lN 32 &&& 63) = lN (n * 4294967296) := by
  rw [← nI_l (show 32 < 2 ^ 31 by decide)]
  exact sl32 n
section MX
variable {d : Nat} {g : aG} {I : Nat → Nat → Int32} {J : Nat → Nat → Int64} {Q : aQ}
theorem PG_w {B : Nat} (h : PG g B) {n : Nat} (hn : n < 2) : gR g (gR g 44 7) n = B + 14 + n ∧ gK g (B + 14 + n) = 13 ∧ gN g (B + 14 + n) = 4096 := by
  have := h.2.2.2.2.2.2.2.2 n hn
  rw [h.2.2.1]
  exact this
theorem c_mix {B nw outer inner outs ins n : Nat} {row : Int32} {V : Nat → Nat → Nat → Nat × Nat} {ct : Nat → Nat → Nat} (hg : Geo g) (hP : PG g B) (hw : nw < 2) (h13 : I 44 13 = nI nw) (hi : 0 < ins) (hi4 : ins ≤ 4) (ho4 : outs ≤ 4) (hi0 : 0 < inner) (hou : 0 < outs) (h1 : outer * outs * inner ≤ 4096) (h2 : outer * ins * inner ≤ 4096) (hn : n ≤ 10000)
    (hrow : (row = -1 ∧ ∀ x y, ct x y = 0) ∨ ∃ r, r + 16 ≤ 1152 ∧ row = nI r ∧ ∀ x y, x < outs → y < ins → I 45 (r + x * 4 + y) = nI (ct x y)) (hct : ∀ x y, ct x y ≤ 9)
    (hV : ∀ o y i, o < outer → y < ins → i < inner → ER n (J (B + 14 + nw) ((o * ins + y) * inner + i)) (V o i y) ∧ (V o i y).2 ≤ 1000000000 ∧ ((V o i y).1 < 1000000 → (V o i y).1 ≤ 900000))
    (hQ : ∀ J', Fr [B + 14 + (1 - nw)] J J' → (∀ e i, e < outer * outs → i < inner → ER (n + 9) (J' (B + 14 + (1 - nw)) (e * inner + i)) ((fo (V (e / outs) i) (ct (e % outs)) ins).1, min 1000000000 (fo (V (e / outs) i) (ct (e % outs)) ins).2)) → Q none (g, I, J')) : a_call aTab aMX (d + 2) m_Planner_mix [.ref 44, .int (nI outer), .int (nI inner), .int (nI outs), .int (nI ins), .int row] (g, I, J) Q := by
  have a0 := PG_w hP hw
  have a1 := PG_w hP (show 1 - nw < 2 by omega)
  have k7 : gK g (gR g 44 7) = 18 := by rw [hP.2.2.1]; exact hP.2.2.2.2.2.2.1
  have n7 : gN g (gR g 44 7) = 2 := by rw [hP.2.2.1]; exact hP.2.2.2.2.2.2.2.1
  have q1 : ¬ 4096 < outer * outs * inner := by omega
  have q2 : ¬ 4096 < outer * ins * inner := by omega
  have hoi : outer * outs ≤ 4096 := Nat.le_trans (Nat.le_mul_of_pos_right _ hi0) h1
  have hoi2 : outer * ins ≤ 4096 := Nat.le_trans (Nat.le_mul_of_pos_right _ hi0) h2
  have hob : outer ≤ 4096 := Nat.le_trans (Nat.le_mul_of_pos_right _ hi) hoi2
  have outer_pos : ∀ o, o < outer → inner ≤ 4096 := fun o ho => Nat.le_trans (Nat.le_mul_of_pos_left _ (Nat.mul_pos (by omega) hi)) h2
  rw [e_Planner_mix]
  simp (disch := omega) only [b_Planner_mix_0 hg, b_Planner_mix_35, b_Planner_mix_48, ↓reduceIte, nadd, nmul, nsub, nlt, neq, ncl, nvi, ndiv, nrem, exI, exJ, exV, eq_self, true_and, and_true, true_or, or_true, if_true, if_false, not_true, not_false_eq_true, false_and, and_false, decide_true, decide_false, bi_T, bi_F, bi_0, bi_1, bi_z, bft, n10, n01, Nat.reduceEqDiff, Nat.reduceLT, Nat.reduceAdd, Nat.reduceMul, reduceCtorEq, h13, k7, n7, a0.1, a1.1, q1, q2]
  generalize hF : B + 14 + nw = F at *
  generalize hT : B + 14 + (1 - nw) = T at *
  have hFT : F ≠ T := by omega
  have idx : ∀ a b i j : Nat, i < inner → j < inner → a * inner + i = b * inner + j → a = b ∧ i = j := by
    intro a b i j h1 h2 h
    have e1 : (a * inner + i) / inner = a := by rw [Nat.add_comm, Nat.add_mul_div_right _ _ hi0, Nat.div_eq_of_lt h1, Nat.zero_add]
    have e2 : (b * inner + j) / inner = b := by rw [Nat.add_comm, Nat.add_mul_div_right _ _ hi0, Nat.div_eq_of_lt h2, Nat.zero_add]
    have : a = b := by rw [← e1, ← e2, h]
    exact ⟨this, by rw [this] at h; omega⟩
  have lt_i : ∀ e i, e < outer * outs → i < inner → e * inner + i < 4096 := by
    intro e i he hi2
    have : (e + 1) * inner ≤ outer * outs * inner := Nat.mul_le_mul_right _ he
    rw [Nat.add_mul, Nat.one_mul] at this
    omega
  have lt_s : ∀ o y i, o < outer → y < ins → i < inner → (o * ins + y) * inner + i < 4096 := by
    intro o y i ho hy hi2
    have h3 : (o + 1) * ins ≤ outer * ins := Nat.mul_le_mul_right _ ho
    rw [Nat.add_mul, Nat.one_mul] at h3
    have : (o * ins + y + 1) * inner ≤ outer * ins * inner := Nat.mul_le_mul_right _ (by omega)
    rw [Nat.add_mul, Nat.one_mul] at this
    omega
  -- what has been done: all numbers below e, and of e itself k in's
  have D1 : ∀ o, o ≤ outer → ∀ J2, Fr [T] J J2 → (∀ e i, e < o * outs → i < inner → ER (n + 9) (J2 T (e * inner + i)) ((fo (V (e / outs) i) (ct (e % outs)) ins).1, min 1000000000 (fo (V (e / outs) i) (ct (e % outs)) ins).2)) → ∀ v9 v10 v11 v12 v13 v15 v16, a_wp aTab aMX (d + 1) m_Planner_mix 51 [.ref 44, .int (nI outer), .int (nI inner), .int (nI outs), .int (nI ins), .int row, .ref F, .ref T, .int (nI o), v9, v10, v11, v12, v13, aU, v15, v16, aU] [] (g, I, J2) Q := by
    refine dn ?_ ?_
    · intro J2 g1 g2 v9 v10 v11 v12 v13 v15 v16
      simp (disch := omega) only [b_Planner_mix_51, b_Planner_mix_207, ↓reduceIte, nadd, nmul, nsub, nlt, neq, ncl, nvi, ndiv, nrem, exI, exJ, exV, eq_self, true_and, and_true, true_or, or_true, if_true, if_false, not_true, not_false_eq_true, false_and, and_false, decide_true, decide_false, bi_T, bi_F, bi_0, bi_1, bi_z, bft, n10, n01, Nat.reduceEqDiff, Nat.reduceLT, Nat.reduceAdd, Nat.reduceMul, reduceCtorEq, Nat.lt_irrefl]
      exact hQ J2 g1 g2
    · intro o ho ih J2 g1 g2 v9 v10 v11 v12 v13 v15 v16
      have hin := outer_pos o ho
      simp (disch := omega) only [b_Planner_mix_51, b_Planner_mix_57, ↓reduceIte, nadd, nmul, nsub, nlt, neq, ncl, nvi, ndiv, nrem, exI, exJ, exV, eq_self, true_and, and_true, true_or, or_true, if_true, if_false, not_true, not_false_eq_true, false_and, and_false, decide_true, decide_false, bi_T, bi_F, bi_0, bi_1, bi_z, bft, n10, n01, Nat.reduceEqDiff, Nat.reduceLT, Nat.reduceAdd, Nat.reduceMul, reduceCtorEq, ho]
      have eo : ∀ x, x < outs → (o * outs + x) / outs = o ∧ (o * outs + x) % outs = x ∧ o * outs + x < outer * outs := by
        intro x hx
        have h3 : (o + 1) * outs ≤ outer * outs := Nat.mul_le_mul_right _ ho
        rw [Nat.add_mul, Nat.one_mul] at h3
        exact ⟨by rw [Nat.add_comm, Nat.add_mul_div_right _ _ hou, Nat.div_eq_of_lt hx, Nat.zero_add], by rw [Nat.add_comm, Nat.add_mul_mod_self_right, Nat.mod_eq_of_lt hx], by omega⟩
      have D2 : ∀ x, x ≤ outs → ∀ J2, Fr [T] J J2 → (∀ e i, e < o * outs + x → i < inner → ER (n + 9) (J2 T (e * inner + i)) ((fo (V (e / outs) i) (ct (e % outs)) ins).1, min 1000000000 (fo (V (e / outs) i) (ct (e % outs)) ins).2)) → ∀ v10 v11 v12 v13 v15 v16, a_wp aTab aMX (d + 1) m_Planner_mix 60 [.ref 44, .int (nI outer), .int (nI inner), .int (nI outs), .int (nI ins), .int row, .ref F, .ref T, .int (nI o), .int (nI x), v10, v11, v12, v13, aU, v15, v16, aU] [] (g, I, J2) Q := by
        refine dn ?_ ?_
        · intro J2 g1 g2 v10 v11 v12 v13 v15 v16
          simp (disch := omega) only [b_Planner_mix_60, b_Planner_mix_201, ↓reduceIte, nadd, nmul, nsub, nlt, neq, ncl, nvi, ndiv, nrem, exI, exJ, exV, eq_self, true_and, and_true, true_or, or_true, if_true, if_false, not_true, not_false_eq_true, false_and, and_false, decide_true, decide_false, bi_T, bi_F, bi_0, bi_1, bi_z, bft, n10, n01, Nat.reduceEqDiff, Nat.reduceLT, Nat.reduceAdd, Nat.reduceMul, reduceCtorEq, Nat.lt_irrefl]
          refine ih J2 g1 ?_ _ _ _ _ _ _ _
          rw [Nat.add_mul, Nat.one_mul]
          exact g2
        · intro x hx ih2 J2 g1 g2 v10 v11 v12 v13 v15 v16
          obtain ⟨ed, er, el⟩ := eo x hx
          have eln : (o * outs + x) * inner ≤ 4096 := by have := lt_i _ 0 el hi0; omega
          simp (disch := omega) only [b_Planner_mix_60, b_Planner_mix_66, ↓reduceIte, nadd, nmul, nsub, nlt, neq, ncl, nvi, ndiv, nrem, exI, exJ, exV, eq_self, true_and, and_true, true_or, or_true, if_true, if_false, not_true, not_false_eq_true, false_and, and_false, decide_true, decide_false, bi_T, bi_F, bi_0, bi_1, bi_z, bft, n10, n01, Nat.reduceEqDiff, Nat.reduceLT, Nat.reduceAdd, Nat.reduceMul, reduceCtorEq, hx]
          have D3 : ∀ y, y ≤ ins → ∀ J2, Fr [T] J J2 → (∀ e i, e < o * outs + x → i < inner → ER (n + 9) (J2 T (e * inner + i)) ((fo (V (e / outs) i) (ct (e % outs)) ins).1, min 1000000000 (fo (V (e / outs) i) (ct (e % outs)) ins).2)) → (0 < y → ∀ i, i < inner → ER (n + 9) (J2 T ((o * outs + x) * inner + i)) ((fo (V o i) (ct x) y).1, min 1000000000 (fo (V o i) (ct x) y).2)) → ∀ v12 v13 v15 v16, a_wp aTab aMX (d + 1) m_Planner_mix 80 [.ref 44, .int (nI outer), .int (nI inner), .int (nI outs), .int (nI ins), .int row, .ref F, .ref T, .int (nI o), .int (nI x), .int (nI ((o * outs + x) * inner)), .int (nI y), v12, v13, aU, v15, v16, aU] [] (g, I, J2) Q := by
            refine dn ?_ ?_
            · intro J2 g1 g2 g3 v12 v13 v15 v16
              simp (disch := omega) only [b_Planner_mix_80, b_Planner_mix_195, ↓reduceIte, nadd, nmul, nsub, nlt, neq, ncl, nvi, ndiv, nrem, exI, exJ, exV, eq_self, true_and, and_true, true_or, or_true, if_true, if_false, not_true, not_false_eq_true, false_and, and_false, decide_true, decide_false, bi_T, bi_F, bi_0, bi_1, bi_z, bft, n10, n01, Nat.reduceEqDiff, Nat.reduceLT, Nat.reduceAdd, Nat.reduceMul, reduceCtorEq, Nat.lt_irrefl]
              refine ih2 J2 g1 ?_ _ _ _ _ _ _
              intro e i he hi2
              by_cases q : e = o * outs + x
              · rw [q, ed, er]
                exact g3 hi i hi2
              · exact g2 e i (by omega) hi2
            · intro y hy ih3 J2 g1 g2 g3 v12 v13 v15 v16
              have D4 : ∀ i, i ≤ inner → ∀ J2, Fr [T] J J2 → (∀ e i, e < o * outs + x → i < inner → ER (n + 9) (J2 T (e * inner + i)) ((fo (V (e / outs) i) (ct (e % outs)) ins).1, min 1000000000 (fo (V (e / outs) i) (ct (e % outs)) ins).2)) → (∀ j, j < i → ER (n + 9) (J2 T ((o * outs + x) * inner + j)) ((fo (V o j) (ct x) (y + 1)).1, min 1000000000 (fo (V o j) (ct x) (y + 1)).2)) → (0 < y → ∀ j, i ≤ j → j < inner → ER (n + 9) (J2 T ((o * outs + x) * inner + j)) ((fo (V o j) (ct x) y).1, min 1000000000 (fo (V o j) (ct x) y).2)) → ∀ v16, a_wp aTab aMX (d + 1) m_Planner_mix 133 [.ref 44, .int (nI outer), .int (nI inner), .int (nI outs), .int (nI ins), .int row, .ref F, .ref T, .int (nI o), .int (nI x), .int (nI ((o * outs + x) * inner)), .int (nI y), .int (nI ((o * ins + y) * inner)), .long (lN (ct x y * 4294967296)), aU, .int (nI i), v16, aU] [] (g, I, J2) Q := by
                refine dn ?_ ?_
                · intro J2 g1 g2 g3 g4 v16
                  simp (disch := omega) only [b_Planner_mix_133, b_Planner_mix_189, ↓reduceIte, nadd, nmul, nsub, nlt, neq, ncl, nvi, ndiv, nrem, exI, exJ, exV, eq_self, true_and, and_true, true_or, or_true, if_true, if_false, not_true, not_false_eq_true, false_and, and_false, decide_true, decide_false, bi_T, bi_F, bi_0, bi_1, bi_z, bft, n10, n01, Nat.reduceEqDiff, Nat.reduceLT, Nat.reduceAdd, Nat.reduceMul, reduceCtorEq, Nat.lt_irrefl]
                  exact ih3 J2 g1 g2 (fun _ j hj => g3 j hj) _ _ _ _
                · intro i hi2 ih4 J2 g1 g2 g3 g4 v16
                  have ls := lt_s o y i ho hy hi2
                  have li := lt_i _ i el hi2
                  obtain ⟨hE, hw2, hv9⟩ := hV o y i ho hy hi2
                  have eF : J2 F = J F := g1 F (by simp [hFT])
                  have c9 := hct x y
                  -- the new value
                  have hE2 : ER (n + 9) (J2 F ((o * ins + y) * inner + i) + lN (ct x y * 4294967296)) ((if (V o i y).1 < 1000000 then (V o i y).1 + ct x y else 1000000), (V o i y).2) := by
                    rw [eF]
                    rcases hE with ⟨z1, z2⟩ | ⟨z1, e, z2, z3⟩
                    · rw [z2, if_pos z1, lN_add]
                      left
                      refine ⟨by have := hv9 z1; show (V o i y).1 + ct x y < 1000000; omega, ?_⟩
                      rw [show (V o i y).1 * 4294967296 + (V o i y).2 + ct x y * 4294967296 = ((V o i y).1 + ct x y) * 4294967296 + (V o i y).2 by omega]
                    · rw [z3, if_neg (by omega), lN_add]
                      right
                      exact ⟨rfl, e + ct x y, by omega, by rw [show (1048576 + e) * 4294967296 + 0 + ct x y * 4294967296 = (1048576 + (e + ct x y)) * 4294967296 + 0 by omega]⟩
                  have put : ∀ z : Int64, ER (n + 9) z ((fo (V o i) (ct x) (y + 1)).1, min 1000000000 (fo (V o i) (ct x) (y + 1)).2) → ∀ v16, a_wp aTab aMX (d + 1) m_Planner_mix 182 [.ref 44, .int (nI outer), .int (nI inner), .int (nI outs), .int (nI ins), .int row, .ref F, .ref T, .int (nI o), .int (nI x), .int (nI ((o * outs + x) * inner)), .int (nI y), .int (nI ((o * ins + y) * inner)), .long (lN (ct x y * 4294967296)), aU, .int (nI i), v16, aU] [.long z, .int (nI ((o * outs + x) * inner + i)), .ref T] (g, I, J2) Q := by
                    intro z hz v16
                    rw [b_Planner_mix_182]
                    simp (disch := omega) only [↓reduceIte, nadd, nmul, nsub, nlt, neq, ncl, nvi, ndiv, nrem, exI, exJ, exV, eq_self, true_and, and_true, true_or, or_true, if_true, if_false, not_true, not_false_eq_true, false_and, and_false, decide_true, decide_false, bi_T, bi_F, bi_0, bi_1, bi_z, bft, n10, n01, Nat.reduceEqDiff, Nat.reduceLT, Nat.reduceAdd, Nat.reduceMul, reduceCtorEq, a1.2.1, a1.2.2]
                    refine ih4 _ (Fr_u (by simp) g1) ?_ ?_ ?_ _
                    · intro e j he hj
                      rw [u2_k (fun z2 => by have := (idx e (o * outs + x) j i hj hi2 z2).1; omega)]
                      exact g2 e j he hj
                    · intro j hj
                      by_cases q : j = i
                      · rw [q, u2_s]; exact hz
                      · rw [u2_k (by omega)]
                        exact g3 j (by omega)
                    · intro hy0 j hj hj2
                      rw [u2_k (by omega)]
                      exact g4 hy0 j (by omega) hj2
                  rw [b_Planner_mix_133]
                  simp (disch := omega) only [b_Planner_mix_139, ↓reduceIte, nadd, nmul, nsub, nlt, neq, ncl, nvi, ndiv, nrem, exI, exJ, exV, eq_self, true_and, and_true, true_or, or_true, if_true, if_false, not_true, not_false_eq_true, false_and, and_false, decide_true, decide_false, bi_T, bi_F, bi_0, bi_1, bi_z, bft, n10, n01, Nat.reduceEqDiff, Nat.reduceLT, Nat.reduceAdd, Nat.reduceMul, reduceCtorEq, hi2, a0.2.1, a0.2.2]
                  by_cases qy : y = 0
                  · rw [if_pos qy, b_Planner_mix_164]
                    refine put _ ?_ _
                    have e1 : fo (V o i) (ct x) (y + 1) = stp (1000000, 0) (if (V o i y).1 < 1000000 then (V o i y).1 + ct x y else 1000000) (V o i y).2 := by rw [qy]; rfl
                    rw [e1]
                    unfold stp
                    rcases hE2 with ⟨z1, z2⟩ | ⟨z1, z2⟩
                    · have z1 : (if (V o i y).1 < 1000000 then (V o i y).1 + ct x y else 1000000) < 1000000 := z1
                      rw [if_pos (show _ ∧ _ ≤ 1000000 from ⟨z1, by omega⟩), if_pos z1]
                      left
                      refine ⟨z1, ?_⟩
                      rw [z2]
                      show lN (_ * 4294967296 + (V o i y).2) = lN (_ * 4294967296 + min 1000000000 (0 + (V o i y).2))
                      rw [show min 1000000000 (0 + (V o i y).2) = (V o i y).2 by omega]
                    · have z1 : (if (V o i y).1 < 1000000 then (V o i y).1 + ct x y else 1000000) = 1000000 := z1
                      rw [if_neg (by rw [z1]; omega)]
                      right
                      exact ⟨rfl, z2⟩
                  · rw [if_neg qy, b_Planner_mix_169]
                    simp (disch := omega) only [↓reduceIte, nadd, nmul, nsub, nlt, neq, ncl, nvi, ndiv, nrem, exI, exJ, exV, eq_self, true_and, and_true, true_or, or_true, if_true, if_false, not_true, not_false_eq_true, false_and, and_false, decide_true, decide_false, bi_T, bi_F, bi_0, bi_1, bi_z, bft, n10, n01, Nat.reduceEqDiff, Nat.reduceLT, Nat.reduceAdd, Nat.reduceMul, reduceCtorEq, a1.2.1, a1.2.2]
                    refine c_eitherR (by omega) (g4 (by omega) i (Nat.le_refl _) hi2) hE2 hw2 ?_
                    intro z hz
                    refine ⟨_, rfl, ?_⟩
                    exact put z hz _
              have go : ∀ z : Int64, z = lN (ct x y * 4294967296) → a_wp aTab aMX (d + 1) m_Planner_mix 128 [.ref 44, .int (nI outer), .int (nI inner), .int (nI outs), .int (nI ins), .int row, .ref F, .ref T, .int (nI o), .int (nI x), .int (nI ((o * outs + x) * inner)), .int (nI y), .int (nI ((o * ins + y) * inner)), aU, aU, aU, aU, aU] [.long z] (g, I, J2) Q := by
                intro z hz
                rw [b_Planner_mix_128, hz]
                exact D4 0 (by omega) J2 g1 g2 (fun j hj => absurd hj (by omega)) (fun h0 j _ hj => g3 h0 j hj) _
              have c9 := hct x y
              rw [b_Planner_mix_80]
              rcases hrow with ⟨r1, r2⟩ | ⟨r, r1, r2, r3⟩
              · simp (disch := omega) only [b_Planner_mix_87, b_Planner_mix_105, ↓reduceIte, nadd, nmul, nsub, nlt, neq, ncl, nvi, ndiv, nrem, exI, exJ, exV, eq_self, true_and, and_true, true_or, or_true, if_true, if_false, not_true, not_false_eq_true, false_and, and_false, decide_true, decide_false, bi_T, bi_F, bi_0, bi_1, bi_z, bft, n10, n01, Nat.reduceEqDiff, Nat.reduceLT, Nat.reduceAdd, Nat.reduceMul, reduceCtorEq, hy, r1]
                have := go (lN 0) (by rw [r2, Nat.zero_mul])
                rw [r1] at this
                exact this
              · have hne : ¬ nI r = (-1 : Int32) := by
                  intro z
                  have := congrArg Int32.toInt z
                  rw [nI_toInt (by omega)] at this
                  have e : ((-1 : Int32)).toInt = -1 := by decide
                  omega
                have e45 := r3 x y hx hy
                simp (disch := omega) only [b_Planner_mix_87, b_Planner_mix_109 hg, ↓reduceIte, nadd, nmul, nsub, nlt, neq, ncl, nvi, ndiv, nrem, exI, exJ, exV, eq_self, true_and, and_true, true_or, or_true, if_true, if_false, not_true, not_false_eq_true, false_and, and_false, decide_true, decide_false, bi_T, bi_F, bi_0, bi_1, bi_z, bft, n10, n01, Nat.reduceEqDiff, Nat.reduceLT, Nat.reduceAdd, Nat.reduceMul, reduceCtorEq, hy, r2, hne, e45, nI_l, sl32b]
                have := go _ rfl
                rw [r2] at this
                exact this
          exact D3 0 (by omega) J2 g1 g2 (fun h => absurd h (by omega)) _ _ _ _
      exact D2 0 (by omega) J2 g1 (by rw [Nat.add_zero]; exact g2) _ _ _ _ _ _
  exact D1 0 (by omega) J Fr_rf (fun e i he => absurd he (by omega)) _ _ _ _ _ _ _
end MX
