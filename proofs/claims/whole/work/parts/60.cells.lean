/-! ===== the told sheet's cells ===== -/
def tld (T : Nat → Int32) (p : Nat) : Bool := bt (T (p / 32)) (p % 32)
def nC (T : Nat → Int32) (n : Nat) : Nat := fb_ct (tld T) n
theorem nC_row (T : Nat → Int32) : ∀ r, nC T (32 * r) = fb_sm (fun r => pcI (T r)) r
  | 0 => rfl
  | r + 1 => by
    unfold nC
    rw [show 32 * (r + 1) = 32 * r + 32 by omega, fb_ct_split, fb_sm_succ]
    have ih := nC_row T r
    unfold nC at ih
    rw [ih]
    congr 1
    unfold pcI
    exact fb_ct_cong (fun k hk => by unfold tld; rw [show (32 * r + k) / 32 = r by omega, show (32 * r + k) % 32 = k by omega])
theorem nC_all (T : Nat → Int32) : nC T 512 = tCells T := nC_row T 16
theorem nC_le {T : Nat → Int32} {p : Nat} (hp : p < 512) (ht : tld T p = true) : nC T p < tCells T := by
  rw [← nC_all]
  have h1 : nC T (p + 1) = nC T p + 1 := by unfold nC; rw [fb_ct_succ, ht]; rfl
  have h2 : nC T (p + 1) ≤ nC T 512 := fb_ct_mono _ (by omega)
  omega
theorem nC_s (T : Nat → Int32) (p : Nat) : nC T (p + 1) = nC T p + (if tld T p then 1 else 0) := fb_ct_succ _ p
def CL (T : Nat → Int32) (n : Nat) (X Y : Nat → Int32) : Prop := ∀ p, p < n → tld T p = true → X (nC T p) = nI (p % 32) ∧ Y (nC T p) = nI (p / 32)
theorem CL_s {T : Nat → Int32} {n : Nat} {X Y X' Y' : Nat → Int32} (h : CL T n X Y) (hX : X' (nC T n) = nI (n % 32)) (hX2 : ∀ i, i ≠ nC T n → X' i = X i) (hY : Y' (nC T n) = nI (n / 32)) (hY2 : ∀ i, i ≠ nC T n → Y' i = Y i) : CL T (n + 1) X' Y' := by
  intro p hp htp
  by_cases q : p = n
  · rw [q]; exact ⟨hX, hY⟩
  · have h1 : nC T p < nC T n := by
      have h1 : nC T (p + 1) = nC T p + 1 := by rw [nC_s, htp]; rfl
      have h2 : nC T (p + 1) ≤ nC T n := fb_ct_mono _ (by omega)
      omega
    rw [hX2 _ (by omega), hY2 _ (by omega)]
    exact h p (by omega) htp
theorem bt_ush (x : Int32) {k : Nat} (hk : k < 32) : (x.toUInt32 >>> ((nI k).toUInt32 &&& Int32.toUInt32 31)).toInt32 &&& nI 1 = bi (bt x k) := by
  apply b_ext
  intro i hi
  rw [b_and, b_ushr k hk x i]
  unfold bi
  rw [bt_nI hi, bt_nI hi]
  by_cases h : i = 0
  · subst h
    cases bt x k <;> simp [hk]
  · have : (1 : Nat).testBit i = false := by
      obtain ⟨j, rfl⟩ : ∃ j, i = j + 1 := ⟨i - 1, by omega⟩
      rw [Nat.testBit_succ]
      simp
    cases bt x k <;> simp [this]
section CE
variable {d : Nat} {g : aG} {I : Nat → Nat → Int32} {J : Nat → Nat → Int64} {Q : aQ} {S : Nat → Nat → Nat} {T : Nat → Int32}
def Xc (I I' : Nat → Nat → Int32) : Prop := ∀ a k, a ≠ 113 → a ≠ 114 → ¬ (a = 89 ∧ k = 49) → I' a k = I a k
theorem c_findCells (hg : Geo g) (hM : MS S T (I 91)) (hQ1 : tCells T ≤ 64 → ∀ I', Xc I I' → I' 89 49 = nI (tCells T) → CL T 512 (I' 114) (I' 113) → Q (some (.int (nI 1))) (g, I', J)) (hQ0 : ¬ tCells T ≤ 64 → ∀ I', Xc I I' → Q (some (.int (nI 0))) (g, I', J)) : a_call aTab aMX (d + 2) m_Mo_findCells [.ref 89] (g, I, J) Q := by
  rw [e_Mo_findCells, b_Mo_findCells_0 hg]
  have key : ∀ r, r ≤ 16 → ∀ I2, Xc I I2 → nC T (32 * r) ≤ 64 → I2 89 49 = nI (nC T (32 * r)) → CL T (32 * r) (I2 114) (I2 113) → ∀ v2, a_wp aTab aMX (d + 1) m_Mo_findCells 7 [.ref 89, .int (nI r), v2] [] (g, I2, J) Q := by
    refine dn ?_ ?_
    · intro I2 g1 g2 g3 g4 v2
      have e : nC T (32 * 16) = tCells T := nC_all T
      rw [e] at g2 g3
      simp (disch := omega) only [b_Mo_findCells_7, b_Mo_findCells_91, ↓reduceIte, nadd, nmul, nsub, nlt, neq, ncl, nvi, ndiv, nrem, exI, exJ, exV, eq_self, true_and, and_true, true_or, or_true, if_true, if_false, not_true, not_false_eq_true, false_and, and_false, decide_true, decide_false, bi_T, bi_F, bi_0, bi_1, bi_z, bft, n10, n01, Nat.reduceEqDiff, Nat.reduceLT, Nat.reduceAdd, Nat.reduceMul, reduceCtorEq, Nat.lt_irrefl]
      exact hQ1 g2 I2 g1 g3 g4
    · intro r hr ih I2 g1 g2 g3 g4 v2
      simp (disch := omega) only [b_Mo_findCells_7, b_Mo_findCells_13, ↓reduceIte, nadd, nmul, nsub, nlt, neq, ncl, nvi, ndiv, nrem, exI, exJ, exV, eq_self, true_and, and_true, true_or, or_true, if_true, if_false, not_true, not_false_eq_true, false_and, and_false, decide_true, decide_false, bi_T, bi_F, bi_0, bi_1, bi_z, bft, n10, n01, Nat.reduceEqDiff, Nat.reduceLT, Nat.reduceAdd, Nat.reduceMul, reduceCtorEq, hr]
      have inner : ∀ c, c ≤ 32 → ∀ I2, Xc I I2 → nC T (32 * r + c) ≤ 64 → I2 89 49 = nI (nC T (32 * r + c)) → CL T (32 * r + c) (I2 114) (I2 113) → a_wp aTab aMX (d + 1) m_Mo_findCells 15 [.ref 89, .int (nI r), .int (nI c)] [] (g, I2, J) Q := by
        refine dn ?_ ?_
        · intro I2 g1 g2 g3 g4
          simp (disch := omega) only [b_Mo_findCells_15, b_Mo_findCells_85, ↓reduceIte, nadd, nmul, nsub, nlt, neq, ncl, nvi, ndiv, nrem, exI, exJ, exV, eq_self, true_and, and_true, true_or, or_true, if_true, if_false, not_true, not_false_eq_true, false_and, and_false, decide_true, decide_false, bi_T, bi_F, bi_0, bi_1, bi_z, bft, n10, n01, Nat.reduceEqDiff, Nat.reduceLT, Nat.reduceAdd, Nat.reduceMul, reduceCtorEq, Nat.lt_irrefl]
          rw [show 32 * r + 32 = 32 * (r + 1) by omega] at g2 g3 g4
          exact ih I2 g1 g2 g3 g4 _
        · intro c hc ihc I2 g1 g2 g3 g4
          have eT : I2 91 (352 + r) = T r := by rw [g1 91 (352 + r) (by decide) (by decide) (by omega)]; exact ms352 hM hr
          have et : tld T (32 * r + c) = bt (T r) c := by unfold tld; rw [show (32 * r + c) / 32 = r by omega, show (32 * r + c) % 32 = c by omega]
          have es := nC_s T (32 * r + c)
          rw [show 32 * r + (c + 1) = 32 * r + c + 1 by omega] at ihc
          rw [b_Mo_findCells_15]
          simp (disch := omega) only [b_Mo_findCells_21 hg, ↓reduceIte, nadd, nmul, nsub, nlt, neq, ncl, nvi, ndiv, nrem, exI, exJ, exV, eq_self, true_and, and_true, true_or, or_true, if_true, if_false, not_true, not_false_eq_true, false_and, and_false, decide_true, decide_false, bi_T, bi_F, bi_0, bi_1, bi_z, bft, n10, n01, Nat.reduceEqDiff, Nat.reduceLT, Nat.reduceAdd, Nat.reduceMul, reduceCtorEq, hc, eT, c_is]
          cases qb : bt (T r) c
          · rw [et, qb] at es
            have es : nC T (32 * r + c + 1) = nC T (32 * r + c) := es
            rw [es] at ihc
            simp (disch := omega) only [b_Mo_findCells_35, b_Mo_findCells_79, ↓reduceIte, nadd, nmul, nsub, nlt, neq, ncl, nvi, ndiv, nrem, exI, exJ, exV, eq_self, true_and, and_true, true_or, or_true, if_true, if_false, not_true, not_false_eq_true, false_and, and_false, decide_true, decide_false, bi_T, bi_F, bi_0, bi_1, bi_z, bft, n10, n01, Nat.reduceEqDiff, Nat.reduceLT, Nat.reduceAdd, Nat.reduceMul, reduceCtorEq]
            refine ihc I2 g1 g2 g3 ?_
            intro p hp htp
            by_cases z : p = 32 * r + c
            · rw [z, et, qb] at htp; cases htp
            · exact g4 p (by omega) htp
          · rw [et, qb] at es
            have es : nC T (32 * r + c + 1) = nC T (32 * r + c) + 1 := es
            have hl := nC_le (show 32 * r + c < 512 by omega) (et.trans qb)
            by_cases q64 : nC T (32 * r + c) = 64
            · simp (disch := omega) only [b_Mo_findCells_35, b_Mo_findCells_38 hg, b_Mo_findCells_47, ↓reduceIte, nadd, nmul, nsub, nlt, neq, ncl, nvi, ndiv, nrem, exI, exJ, exV, eq_self, true_and, and_true, true_or, or_true, if_true, if_false, not_true, not_false_eq_true, false_and, and_false, decide_true, decide_false, bi_T, bi_F, bi_0, bi_1, bi_z, bft, n10, n01, Nat.reduceEqDiff, Nat.reduceLT, Nat.reduceAdd, Nat.reduceMul, reduceCtorEq, g3, q64]
              exact hQ0 (by omega) I2 g1
            · have hn64 : nC T (32 * r + c) < 64 := by omega
              rw [es] at ihc
              simp (disch := omega) only [b_Mo_findCells_35, b_Mo_findCells_38 hg, ↓reduceIte, nadd, nmul, nsub, nlt, neq, ncl, nvi, ndiv, nrem, exI, exJ, exV, eq_self, true_and, and_true, true_or, or_true, if_true, if_false, not_true, not_false_eq_true, false_and, and_false, decide_true, decide_false, bi_T, bi_F, bi_0, bi_1, bi_z, bft, n10, n01, Nat.reduceEqDiff, Nat.reduceLT, Nat.reduceAdd, Nat.reduceMul, reduceCtorEq, g3, q64]
              rw [b_Mo_findCells_49 hg, g3]
              have x1 : u2 I2 113 (nI (nC T (32 * r + c))).toNatClampNeg (nI r) 89 49 = nI (nC T (32 * r + c)) := by rw [u2_a (by decide)]; exact g3
              rw [x1]
              have x2 : u2 (u2 I2 113 (nI (nC T (32 * r + c))).toNatClampNeg (nI r)) 114 (nI (nC T (32 * r + c))).toNatClampNeg (nI c) 89 49 = nI (nC T (32 * r + c)) := by rw [u2_a (by decide), u2_a (by decide)]; exact g3
              rw [x2]
              simp (disch := omega) only [b_Mo_findCells_79, ↓reduceIte, nadd, nmul, nsub, nlt, neq, ncl, nvi, ndiv, nrem, exI, exJ, exV, eq_self, true_and, and_true, true_or, or_true, if_true, if_false, not_true, not_false_eq_true, false_and, and_false, decide_true, decide_false, bi_T, bi_F, bi_0, bi_1, bi_z, bft, n10, n01, Nat.reduceEqDiff, Nat.reduceLT, Nat.reduceAdd, Nat.reduceMul, reduceCtorEq]
              refine ihc _ ?_ (by omega) u2_s ?_
              · intro a k h1 h2 h3
                rw [show u2 (u2 (u2 I2 113 (nC T (32 * r + c)) (nI r)) 114 (nC T (32 * r + c)) (nI c)) 89 49 (nI (nC T (32 * r + c) + 1)) a k = u2 (u2 I2 113 (nC T (32 * r + c)) (nI r)) 114 (nC T (32 * r + c)) (nI c) a k from if_neg h3, u2_a h2, u2_a h1]
                exact g1 a k h1 h2 h3
              · refine CL_s g4 ?_ (fun i hi => ?_) ?_ (fun i hi => ?_)
                · rw [u2_a (by decide), u2_s, show (32 * r + c) % 32 = c by omega]
                · rw [u2_a (by decide), u2_k hi, u2_a (by decide)]
                · rw [u2_a (by decide), u2_a (by decide), u2_s, show (32 * r + c) / 32 = r by omega]
                · rw [u2_a (by decide), u2_a (by decide), u2_k hi]
      exact inner 0 (by omega) I2 g1 g2 g3 g4
  refine key 0 (by omega) _ ?_ (show nC T 0 ≤ 64 from Nat.zero_le _) u2_s (fun p hp => absurd hp (by omega)) _
  intro a k h1 h2 h3
  exact if_neg h3
end CE
/-! where a cell's middle is lit through, on the way from the lamp -/
theorem prj_0 {e l : Nat} (he : e ≤ l) (hl : 1 ≤ l) : prj 0 e l = 0 := by
  unfold prj
  rw [Nat.div_eq_of_lt]
  omega
theorem prj_step {c e l : Nat} (he : e ≤ l) (hl : 1 ≤ l) : prj (c + 1) e l ≤ prj c e l + 1 ∧ prj c e l ≤ prj (c + 1) e l := by
  unfold prj
  have e1 : (2 * (c + 1) + 1) * e = (2 * c + 1) * e + 2 * e := by rw [← Nat.add_mul]; congr 1
  rw [e1]
  constructor
  · have : ((2 * c + 1) * e + 2 * e) / (2 * l) ≤ ((2 * c + 1) * e + 2 * l) / (2 * l) := Nat.div_le_div_right (by omega)
    rw [Nat.add_div_right _ (by omega)] at this
    exact this
  · exact Nat.div_le_div_right (by omega)
theorem prj_onto {e l : Nat} (he : e ≤ l) (hl : 1 ≤ l) : ∀ n z, z ≤ prj n e l → ∃ c, c ≤ n ∧ prj c e l = z
  | 0, z, h => ⟨0, Nat.le_refl _, by rw [prj_0 he hl] at h ⊢; omega⟩
  | n + 1, z, h => by
    have hs := prj_step (c := n) he hl
    by_cases q : z ≤ prj n e l
    · obtain ⟨c, h1, h2⟩ := prj_onto he hl n z q
      exact ⟨c, by omega, h2⟩
    · exact ⟨n + 1, Nat.le_refl _, by omega⟩
theorem prj_mono {e l : Nat} (he : e ≤ l) (hl : 1 ≤ l) : ∀ n c, c ≤ n → prj c e l ≤ prj n e l
  | 0, c, h => by rw [show c = 0 by omega]; exact Nat.le_refl _
  | n + 1, c, h => by
    have hs := prj_step (c := n) he hl
    by_cases q : c = n + 1
    · rw [q]; exact Nat.le_refl _
    · have := prj_mono he hl n c (by omega)
      omega
theorem prj_c {c e l : Nat} (hc : c < 32) (he : e ≤ l) (hl : 1 ≤ l) : prj c e l < 32 := by
  unfold prj
  rw [Nat.div_lt_iff_lt_mul (by omega)]
  have : (2 * c + 1) * e ≤ 63 * l := Nat.mul_le_mul (by omega) he
  omega
theorem prj_r {r e l : Nat} (hr : r < 16) (he : e ≤ l) (hl : 1 ≤ l) : prj r e l < 16 := by
  unfold prj
  rw [Nat.div_lt_iff_lt_mul (by omega)]
  have : (2 * r + 1) * e ≤ 31 * l := Nat.mul_le_mul (by omega) he
  omega
