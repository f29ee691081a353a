/-! ===== the reference's shadows of a figure ===== -/
def nPl (S : Nat → Nat → Nat) : Nat := 512 * min 8 (S 10 0)
theorem plL_s {S : Nat → Nat → Nat} {T : Nat → Int32} {f dp x y : Nat} (h1 : 1 ≤ dp) (hx : x < 32) (hy : y < 16) : plL S T f (512 * (dp - 1) + 16 * x + (y + 1)) = plA S T f dp x y (plL S T f (512 * (dp - 1) + 16 * x + y)) := by
  show plA S T f ((512 * (dp - 1) + 16 * x + y) / 512 + 1) ((512 * (dp - 1) + 16 * x + y) / 16 % 32) ((512 * (dp - 1) + 16 * x + y) % 16) _ = _
  rw [show (512 * (dp - 1) + 16 * x + y) / 512 + 1 = dp by omega, show (512 * (dp - 1) + 16 * x + y) / 16 % 32 = x by omega, show (512 * (dp - 1) + 16 * x + y) % 16 = y by omega]
  rfl
section MSH
variable {d : Nat} {g : aG} {I : Nat → Nat → Int32} {J : Nat → Nat → Int64} {Q : aQ} {S : Nat → Nat → Nat} {T : Nat → Int32}
theorem c_findShadows (hg : Geo g) (hB : SB S) (hM : MS S T (I 91)) (hc64 : tCells T ≤ 64) (h49 : I 89 49 = nI (tCells T)) (hCL : CL T 512 (I 114) (I 113)) {f : Nat} (hf : f < 6) (hQ : ∀ I' J', RF f I I' J J' → RLs f (plL S T f (nPl S)) I' J' → Q none (g, I', J')) : a_call aTab aMX (d + 4) m_Mo_findShadows [.ref 89, .int (nI f)] (g, I, J) Q := by
  have ht := sb10 hB
  have hz : ¬ 2 * S 10 0 = 0 := by omega
  have cmn : ∀ {I2 : Nat → Nat → Int32} {J2 : Nat → Nat → Int64}, RF f I I2 J J2 → MS S T (I2 91) ∧ I2 89 49 = nI (tCells T) ∧ CL T 512 (I2 114) (I2 113) := fun {I2 J2} h => by
    rw [h.1 91 (by decide) (by decide) (by decide) (by decide), h.1 89 (by decide) (by decide) (by decide) (by decide), h.1 113 (by decide) (by decide) (by decide) (by decide), h.1 114 (by decide) (by decide) (by decide) (by decide)]
    exact ⟨hM, h49, hCL⟩
  have key : ∀ dp, dp ≤ min 8 (S 10 0) → ∀ I2 J2, RF f I I2 J J2 → RLs f (plL S T f (512 * dp)) I2 J2 → ∀ v4 v5, a_wp aTab aMX (d + 3) m_Mo_findShadows 30 [.ref 89, .int (nI f), .int (nI (min 8 (S 10 0))), .int (nI (dp + 1)), v4, v5] [] (g, I2, J2) Q := by
    refine dn ?_ ?_
    · intro I2 J2 hF hR v4 v5
      have q : min 8 (S 10 0) < min 8 (S 10 0) + 1 := by omega
      simp (disch := omega) only [b_Mo_findShadows_30, b_Mo_findShadows_122, ↓reduceIte, nadd, nmul, nsub, nlt, neq, ncl, nvi, ndiv, nrem, exI, exJ, exV, eq_self, true_and, and_true, true_or, or_true, if_true, if_false, not_true, not_false_eq_true, false_and, and_false, decide_true, decide_false, bi_T, bi_F, bi_0, bi_1, bi_z, bft, n10, n01, Nat.reduceEqDiff, Nat.reduceLT, Nat.reduceAdd, Nat.reduceMul, reduceCtorEq, q]
      exact hQ I2 J2 hF hR
    · intro dp hdp ih I2 J2 hF hR v4 v5
      have q : ¬ min 8 (S 10 0) < dp + 1 := by omega
      simp (disch := omega) only [b_Mo_findShadows_30, b_Mo_findShadows_35, ↓reduceIte, nadd, nmul, nsub, nlt, neq, ncl, nvi, ndiv, nrem, exI, exJ, exV, eq_self, true_and, and_true, true_or, or_true, if_true, if_false, not_true, not_false_eq_true, false_and, and_false, decide_true, decide_false, bi_T, bi_F, bi_0, bi_1, bi_z, bft, n10, n01, Nat.reduceEqDiff, Nat.reduceLT, Nat.reduceAdd, Nat.reduceMul, reduceCtorEq, q]
      have loopx : (∀ c, c < 32 → True) → ∀ x, x ≤ 32 → ∀ I3 J3, RF f I I3 J J3 → (∀ c, c < 32 → I3 118 c = nI (prj c (dp + 1) (S 10 0))) → RLs f (plL S T f (512 * dp + 16 * x)) I3 J3 → ∀ v5, a_wp aTab aMX (d + 3) m_Mo_findShadows 77 [.ref 89, .int (nI f), .int (nI (min 8 (S 10 0))), .int (nI (dp + 1)), .int (nI x), v5] [] (g, I3, J3) Q := by
        intro _
        refine dn ?_ ?_
        · intro I3 J3 hF3 h118 hR3 v5
          simp (disch := omega) only [b_Mo_findShadows_77, b_Mo_findShadows_116, ↓reduceIte, nadd, nmul, nsub, nlt, neq, ncl, nvi, ndiv, nrem, exI, exJ, exV, eq_self, true_and, and_true, true_or, or_true, if_true, if_false, not_true, not_false_eq_true, false_and, and_false, decide_true, decide_false, bi_T, bi_F, bi_0, bi_1, bi_z, bft, n10, n01, Nat.reduceEqDiff, Nat.reduceLT, Nat.reduceAdd, Nat.reduceMul, reduceCtorEq, Nat.lt_irrefl]
          exact ih I3 J3 hF3 hR3 _ _
        · intro x hx ihx I3 J3 hF3 h118 hR3 v5
          simp (disch := omega) only [b_Mo_findShadows_77, b_Mo_findShadows_84, ↓reduceIte, nadd, nmul, nsub, nlt, neq, ncl, nvi, ndiv, nrem, exI, exJ, exV, eq_self, true_and, and_true, true_or, or_true, if_true, if_false, not_true, not_false_eq_true, false_and, and_false, decide_true, decide_false, bi_T, bi_F, bi_0, bi_1, bi_z, bft, n10, n01, Nat.reduceEqDiff, Nat.reduceLT, Nat.reduceAdd, Nat.reduceMul, reduceCtorEq, hx]
          refine dn (P := fun y => ∀ I4 J4, RF f I I4 J J4 → I4 118 = I3 118 → RLs f (plL S T f (512 * dp + 16 * x + y)) I4 J4 → a_wp aTab aMX (d + 3) m_Mo_findShadows 87 [.ref 89, .int (nI f), .int (nI (min 8 (S 10 0))), .int (nI (dp + 1)), .int (nI x), .int (nI y)] [] (g, I4, J4) Q) (n := 16) ?_ ?_ 0 (by omega) I3 J3 hF3 rfl hR3
          · intro I4 J4 hF4 e118 hR4
            simp (disch := omega) only [b_Mo_findShadows_87, b_Mo_findShadows_110, ↓reduceIte, nadd, nmul, nsub, nlt, neq, ncl, nvi, ndiv, nrem, exI, exJ, exV, eq_self, true_and, and_true, true_or, or_true, if_true, if_false, not_true, not_false_eq_true, false_and, and_false, decide_true, decide_false, bi_T, bi_F, bi_0, bi_1, bi_z, bft, n10, n01, Nat.reduceEqDiff, Nat.reduceLT, Nat.reduceAdd, Nat.reduceMul, reduceCtorEq, Nat.lt_irrefl]
            exact ihx I4 J4 hF4 (by rw [e118]; exact h118) hR4 _
          · intro y hy ihy I4 J4 hF4 e118 hR4
            obtain ⟨m1, m2, m3⟩ := cmn hF4
            have hlen := plL_len S T f (512 * dp + 16 * x + y)
            rw [b_Mo_findShadows_87]
            simp (disch := omega) only [b_Mo_findShadows_94 hg, ↓reduceIte, nadd, nmul, nsub, nlt, neq, ncl, nvi, ndiv, nrem, exI, exJ, exV, eq_self, true_and, and_true, true_or, or_true, if_true, if_false, not_true, not_false_eq_true, false_and, and_false, decide_true, decide_false, bi_T, bi_F, bi_0, bi_1, bi_z, bft, n10, n01, Nat.reduceEqDiff, Nat.reduceLT, Nat.reduceAdd, Nat.reduceMul, reduceCtorEq, hy]
            refine c_tryPlace hg hB m1 hc64 m2 m3 hf (by omega) (by omega) hx hy (by rw [e118]; exact h118) (by omega) (plL_ok hc64 _) hR4 ?_
            intro I5 J5 hF5 e5 hR5
            have es := plL_s (S := S) (T := T) (f := f) (dp := dp + 1) (by omega) hx hy
            rw [show dp + 1 - 1 = dp by omega] at es
            rw [← es] at hR5
            simp (disch := omega) only [b_Mo_findShadows_104, ↓reduceIte, nadd, nmul, nsub, nlt, neq, ncl, nvi, ndiv, nrem, exI, exJ, exV, eq_self, true_and, and_true, true_or, or_true, if_true, if_false, not_true, not_false_eq_true, false_and, and_false, decide_true, decide_false, bi_T, bi_F, bi_0, bi_1, bi_z, bft, n10, n01, Nat.reduceEqDiff, Nat.reduceLT, Nat.reduceAdd, Nat.reduceMul, reduceCtorEq]
            exact ihy I5 J5 (RF_t hF4 hF5) (e5.trans e118) hR5
      have hF2 := hF
      refine dn (P := fun c => ∀ I3, (∀ a, a ≠ 118 → I3 a = I2 a) → (∀ c', c' < c → I3 118 c' = nI (prj c' (dp + 1) (S 10 0))) → ∀ v5, a_wp aTab aMX (d + 3) m_Mo_findShadows 38 [.ref 89, .int (nI f), .int (nI (min 8 (S 10 0))), .int (nI (dp + 1)), .int (nI c), v5] [] (g, I3, J2) Q) (n := 32) ?_ ?_ 0 (by omega) I2 (fun _ _ => rfl) (fun c' h => absurd h (by omega)) _
      · intro I3 h1 h2 v5
        simp (disch := omega) only [b_Mo_findShadows_38, b_Mo_findShadows_74, ↓reduceIte, nadd, nmul, nsub, nlt, neq, ncl, nvi, ndiv, nrem, exI, exJ, exV, eq_self, true_and, and_true, true_or, or_true, if_true, if_false, not_true, not_false_eq_true, false_and, and_false, decide_true, decide_false, bi_T, bi_F, bi_0, bi_1, bi_z, bft, n10, n01, Nat.reduceEqDiff, Nat.reduceLT, Nat.reduceAdd, Nat.reduceMul, reduceCtorEq, Nat.lt_irrefl]
        refine loopx (fun _ _ => trivial) 0 (by omega) I3 J2 ?_ h2 ?_ _
        · exact ⟨fun a x1 x2 x3 x4 => (h1 a x3).trans (hF.1 a x1 x2 x3 x4), fun k hk => by rw [h1 117 (by decide)]; exact hF.2.1 k hk, fun k hk => by rw [h1 116 (by decide)]; exact hF.2.2.1 k hk, hF.2.2.2⟩
        · refine ⟨by rw [h1 117 (by decide)]; exact hR.1, fun i hi => by rw [h1 116 (by decide)]; exact hR.2 i hi⟩
      · intro c hc ihc I3 h1 h2 v5
        have M3 : MS S T (I3 91) := by rw [h1 91 (by decide)]; exact (cmn hF).1
        have hdd : (2 * c + 1) * (dp + 1) ≤ 63 * 8 := Nat.mul_le_mul (by omega) (by omega)
        rw [b_Mo_findShadows_38]
        simp (disch := omega) only [b_Mo_findShadows_45 hg, b_Mo_findShadows_65 hg, ↓reduceIte, nadd, nmul, nsub, nlt, neq, ncl, nvi, ndiv, nrem, exI, exJ, exV, eq_self, true_and, and_true, true_or, or_true, if_true, if_false, not_true, not_false_eq_true, false_and, and_false, decide_true, decide_false, bi_T, bi_F, bi_0, bi_1, bi_z, bft, n10, n01, Nat.reduceEqDiff, Nat.reduceLT, Nat.reduceAdd, Nat.reduceMul, reduceCtorEq, hc, c_term hg, ms2 M3, ms2r M3, hz]
        refine ihc _ (fun a ha => by rw [u2_r ha]; exact h1 a ha) ?_ _
        intro c' hc'
        by_cases z : c' = c
        · rw [z, u2_s]; rfl
        · rw [u2_k z]; exact h2 c' (by omega)
  have hF0 : RF f I (u2 I 117 f (nI 0)) J J := ⟨fun a x1 x2 x3 x4 => u2_r x2, fun k hk => u2_k hk, fun k hk => by rw [u2_r (by decide)]; exact ⟨rfl, rfl⟩, fun _ _ => rfl⟩
  have M0 := (cmn hF0).1
  have go : a_wp aTab aMX (d + 3) m_Mo_findShadows 30 [.ref 89, .int (nI f), .int (nI (min 8 (S 10 0))), .int (nI 1), aU, aU] [] (g, u2 I 117 f (nI 0), J) Q := key 0 (by omega) _ J hF0 ⟨u2_s, fun i hi => absurd hi (Nat.not_lt_zero _)⟩ _ _
  rw [e_Mo_findShadows, b_Mo_findShadows_0 hg]
  by_cases q : S 10 0 < 8
  · rw [show min 8 (S 10 0) = S 10 0 by omega] at go
    simp (disch := omega) only [b_Mo_findShadows_12, b_Mo_findShadows_17 hg, b_Mo_findShadows_22, b_Mo_findShadows_27, ↓reduceIte, nadd, nmul, nsub, nlt, neq, ncl, nvi, ndiv, nrem, exI, exJ, exV, eq_self, true_and, and_true, true_or, or_true, if_true, if_false, not_true, not_false_eq_true, false_and, and_false, decide_true, decide_false, bi_T, bi_F, bi_0, bi_1, bi_z, bft, n10, n01, Nat.reduceEqDiff, Nat.reduceLT, Nat.reduceAdd, Nat.reduceMul, reduceCtorEq, hf, c_term hg, ms2 M0, ms2r M0, q]
    exact go
  · rw [show min 8 (S 10 0) = 8 by omega] at go
    simp (disch := omega) only [b_Mo_findShadows_12, b_Mo_findShadows_25, b_Mo_findShadows_27, ↓reduceIte, nadd, nmul, nsub, nlt, neq, ncl, nvi, ndiv, nrem, exI, exJ, exV, eq_self, true_and, and_true, true_or, or_true, if_true, if_false, not_true, not_false_eq_true, false_and, and_false, decide_true, decide_false, bi_T, bi_F, bi_0, bi_1, bi_z, bft, n10, n01, Nat.reduceEqDiff, Nat.reduceLT, Nat.reduceAdd, Nat.reduceMul, reduceCtorEq, hf, c_term hg, ms2 M0, ms2r M0, q]
    exact go
end MSH
