/-! ===== the Target ===== -/
theorem rows9 {g : aG} (hg : Geo g) : ∀ n, n < 9 → (gR g 53 n = 54 + n ∧ gK g (54 + n) = 12 ∧ gN g (54 + n) = 32) ∧ (gR g 63 n = 64 + n ∧ gK g (64 + n) = 12 ∧ gN g (64 + n) = 16) ∧ (gR g 73 n = 74 + n ∧ gK g (74 + n) = 12 ∧ gN g (74 + n) = 16)
  | 0, _ => ⟨⟨r_53_0 hg, k_54 hg, n_54 hg⟩, ⟨r_63_0 hg, k_64 hg, n_64 hg⟩, ⟨r_73_0 hg, k_74 hg, n_74 hg⟩⟩
  | 1, _ => ⟨⟨r_53_1 hg, k_55 hg, n_55 hg⟩, ⟨r_63_1 hg, k_65 hg, n_65 hg⟩, ⟨r_73_1 hg, k_75 hg, n_75 hg⟩⟩
  | 2, _ => ⟨⟨r_53_2 hg, k_56 hg, n_56 hg⟩, ⟨r_63_2 hg, k_66 hg, n_66 hg⟩, ⟨r_73_2 hg, k_76 hg, n_76 hg⟩⟩
  | 3, _ => ⟨⟨r_53_3 hg, k_57 hg, n_57 hg⟩, ⟨r_63_3 hg, k_67 hg, n_67 hg⟩, ⟨r_73_3 hg, k_77 hg, n_77 hg⟩⟩
  | 4, _ => ⟨⟨r_53_4 hg, k_58 hg, n_58 hg⟩, ⟨r_63_4 hg, k_68 hg, n_68 hg⟩, ⟨r_73_4 hg, k_78 hg, n_78 hg⟩⟩
  | 5, _ => ⟨⟨r_53_5 hg, k_59 hg, n_59 hg⟩, ⟨r_63_5 hg, k_69 hg, n_69 hg⟩, ⟨r_73_5 hg, k_79 hg, n_79 hg⟩⟩
  | 6, _ => ⟨⟨r_53_6 hg, k_60 hg, n_60 hg⟩, ⟨r_63_6 hg, k_70 hg, n_70 hg⟩, ⟨r_73_6 hg, k_80 hg, n_80 hg⟩⟩
  | 7, _ => ⟨⟨r_53_7 hg, k_61 hg, n_61 hg⟩, ⟨r_63_7 hg, k_71 hg, n_71 hg⟩, ⟨r_73_7 hg, k_81 hg, n_81 hg⟩⟩
  | 8, _ => ⟨⟨r_53_8 hg, k_62 hg, n_62 hg⟩, ⟨r_63_8 hg, k_72 hg, n_72 hg⟩, ⟨r_73_8 hg, k_82 hg, n_82 hg⟩⟩
  | n + 9, h => absurd h (by omega)
def tgd (T : Nat → Int32) (l dp : Nat) (I : Nat → Nat → Int32) : Prop := (∀ c, c < 32 → I (54 + dp) c = nI (prj c dp l)) ∧ (∀ r, r < 16 → I (64 + dp) r = nI (prj r dp l)) ∧ (∀ z, z < 16 → ∀ x, x < 32 → (bt (I (74 + dp) z) x = true ↔ ∃ r c, r < 16 ∧ c < 32 ∧ prj r dp l = z ∧ prj c dp l = x ∧ tld T (32 * r + c) = false))
section TG
variable {d : Nat} {g : aG} {I : Nat → Nat → Int32} {J : Nat → Nat → Int64} {Q : aQ} {S : Nat → Nat → Nat}
theorem c_lookFrom (hg : Geo g) (hS : CS S I) {dp : Nat} (h1 : 1 ≤ dp) (h8 : dp ≤ 8) (hl : dp ≤ S 10 0) (hQ : ∀ I', (∀ a, a ≠ 54 + dp → a ≠ 64 + dp → a ≠ 74 + dp → I' a = I a) → tgd (I 14) (S 10 0) dp I' → Q none (g, I', J)) : a_call aTab aMX (d + 2) m_Target_lookFrom [.ref 50, .ref 7, .int (nI dp)] (g, I, J) Q := by
  have ht := sb10 hS.2
  obtain ⟨⟨a1, a2, a3⟩, ⟨b1, b2, b3⟩, ⟨c1, c2, c3⟩⟩ := rows9 hg dp (by omega)
  rw [e_Target_lookFrom, b_Target_lookFrom_0 hg]
  have e10 : I 10 (nI 0).toNatClampNeg = nI (S 10 0) := cs10 hS 0
  rw [e10]
  generalize hL : S 10 0 = l at *
  -- spills
  have loop3 : ∀ k, k ≤ 16 → ∀ I2, (∀ a, a ≠ 54 + dp → a ≠ 64 + dp → a ≠ 74 + dp → I2 a = I a) → (∀ c, c < 32 → I2 (54 + dp) c = nI (prj c dp l)) → (∀ r, r < k → I2 (64 + dp) r = nI (prj r dp l)) → (∀ z, z < 16 → ∀ x, x < 32 → (bt (I2 (74 + dp) z) x = true ↔ ∃ r c, r < k ∧ c < 32 ∧ prj r dp l = z ∧ prj c dp l = x ∧ tld (I 14) (32 * r + c) = false)) → ∀ v5 v6, a_wp aTab aMX (d + 1) m_Target_lookFrom 52 [.ref 50, .ref 7, .int (nI dp), .int (nI l), .int (nI k), v5, v6] [] (g, I2, J) Q := by
    refine dn ?_ ?_
    · intro I2 g1 g2 g3 g4 v5 v6
      simp (disch := omega) only [b_Target_lookFrom_52, b_Target_lookFrom_146, ↓reduceIte, nadd, nmul, nsub, nlt, neq, ncl, nvi, ndiv, nrem, exI, exJ, exV, eq_self, true_and, and_true, true_or, or_true, if_true, if_false, not_true, not_false_eq_true, false_and, and_false, decide_true, decide_false, bi_T, bi_F, bi_0, bi_1, bi_z, bft, n10, n01, Nat.reduceEqDiff, Nat.reduceLT, Nat.reduceAdd, Nat.reduceMul, reduceCtorEq, Nat.lt_irrefl]
      exact hQ I2 g1 ⟨g2, g3, g4⟩
    · intro k hk ih I2 g1 g2 g3 g4 v5 v6
      have hpr := prj_r hk hl (by omega)
      rw [b_Target_lookFrom_52]
      simp (disch := omega) only [b_Target_lookFrom_59, b_Target_lookFrom_66 hg, ↓reduceIte, nadd, nmul, nsub, nlt, neq, ncl, nvi, ndiv, nrem, exI, exJ, exV, eq_self, true_and, and_true, true_or, or_true, if_true, if_false, not_true, not_false_eq_true, false_and, and_false, decide_true, decide_false, bi_T, bi_F, bi_0, bi_1, bi_z, bft, n10, n01, Nat.reduceEqDiff, Nat.reduceLT, Nat.reduceAdd, Nat.reduceMul, reduceCtorEq, hk, c_project, b1, b2, b3]
      generalize hI3 : u2 I2 (64 + dp) k (nI (prj k dp l)) = I3
      have f1 : ∀ a, a ≠ 54 + dp → a ≠ 64 + dp → a ≠ 74 + dp → I3 a = I a := fun a h1 h2 h3 => by rw [← hI3, u2_r h2]; exact g1 a h1 h2 h3
      have f2 : ∀ c, c < 32 → I3 (54 + dp) c = nI (prj c dp l) := fun c hc => by rw [← hI3, u2_a (by omega)]; exact g2 c hc
      have f3 : ∀ r, r < k + 1 → I3 (64 + dp) r = nI (prj r dp l) := fun r hr => by
        rw [← hI3]
        by_cases q : r = k
        · rw [q, u2_s]
        · rw [u2_k q]; exact g3 r (by omega)
      have f4 : I3 (74 + dp) = I2 (74 + dp) := by rw [← hI3, u2_r (by omega)]
      clear hI3
      have inner : ∀ j, j ≤ 32 → ∀ I4, (∀ a, a ≠ 74 + dp → I4 a = I3 a) → (∀ z, z < 16 → ∀ x, x < 32 → (bt (I4 (74 + dp) z) x = true ↔ ∃ r c, (r < k ∨ (r = k ∧ c < j)) ∧ c < 32 ∧ prj r dp l = z ∧ prj c dp l = x ∧ tld (I 14) (32 * r + c) = false)) → a_wp aTab aMX (d + 1) m_Target_lookFrom 82 [.ref 50, .ref 7, .int (nI dp), .int (nI l), .int (nI k), .int (nI (prj k dp l)), .int (nI j)] [] (g, I4, J) Q := by
        refine dn ?_ ?_
        · intro I4 r1 r2
          simp (disch := omega) only [b_Target_lookFrom_82, b_Target_lookFrom_140, ↓reduceIte, nadd, nmul, nsub, nlt, neq, ncl, nvi, ndiv, nrem, exI, exJ, exV, eq_self, true_and, and_true, true_or, or_true, if_true, if_false, not_true, not_false_eq_true, false_and, and_false, decide_true, decide_false, bi_T, bi_F, bi_0, bi_1, bi_z, bft, n10, n01, Nat.reduceEqDiff, Nat.reduceLT, Nat.reduceAdd, Nat.reduceMul, reduceCtorEq, Nat.lt_irrefl]
          refine ih I4 (fun a h1 h2 h3 => (r1 a h3).trans (f1 a h1 h2 h3)) (fun c hc => by rw [r1 _ (by omega)]; exact f2 c hc) (fun r hr => by rw [r1 _ (by omega)]; exact f3 r hr) ?_ _ _
          intro z hz x hx
          rw [r2 z hz x hx]
          constructor
          · rintro ⟨r, c, h1, h2, h3⟩
            exact ⟨r, c, by omega, h2, h3⟩
          · rintro ⟨r, c, h1, h2, h3⟩
            exact ⟨r, c, by omega, h2, h3⟩
        · intro j hj ihj I4 r1 r2
          have eT : I4 14 k = I 14 k := by rw [r1 14 (by omega), f1 14 (by omega) (by omega) (by omega)]
          have et : tld (I 14) (32 * k + j) = bt (I 14 k) j := by unfold tld; rw [show (32 * k + j) / 32 = k by omega, show (32 * k + j) % 32 = j by omega]
          have hpc := prj_c hj hl (by omega)
          have e54 : I4 (54 + dp) j = nI (prj j dp l) := by rw [r1 _ (by omega)]; exact f2 j hj
          rw [b_Target_lookFrom_82]
          cases qb : bt (I 14 k) j
          · simp (disch := omega) only [b_Target_lookFrom_89 hg, b_Target_lookFrom_104, b_Target_lookFrom_111 hg, b_Target_lookFrom_134, ↓reduceIte, nadd, nmul, nsub, nlt, neq, ncl, nvi, ndiv, nrem, exI, exJ, exV, eq_self, true_and, and_true, true_or, or_true, if_true, if_false, not_true, not_false_eq_true, false_and, and_false, decide_true, decide_false, bi_T, bi_F, bi_0, bi_1, bi_z, bft, n10, n01, Nat.reduceEqDiff, Nat.reduceLT, Nat.reduceAdd, Nat.reduceMul, reduceCtorEq, hj, eT, bt_ush, qb, hpr, a1, a2, a3, c1, c2, c3, e54]
            refine ihj _ (fun a ha => by rw [u2_r ha]; exact r1 a ha) ?_
            intro z hz x hx
            by_cases q : z = prj k dp l
            · rw [q, u2_s, b_or, nshl hpc, bt_nI hx, Nat.one_shiftLeft, Nat.testBit_two_pow, Bool.or_eq_true, decide_eq_true_iff]
              rw [q] at hz
              rw [r2 _ hz x hx]
              constructor
              · rintro (⟨r, c, h1, h2, h3⟩ | h1)
                · exact ⟨r, c, by omega, h2, h3⟩
                · exact ⟨k, j, by omega, hj, rfl, h1, et.trans qb⟩
              · rintro ⟨r, c, h1, h2, h3, h4, h5⟩
                by_cases z2 : r = k ∧ c = j
                · right; rw [z2.2] at h4; exact h4
                · left; exact ⟨r, c, by omega, h2, h3, h4, h5⟩
            · rw [u2_k q, r2 z hz x hx]
              constructor
              · rintro ⟨r, c, h1, h2, h3⟩
                exact ⟨r, c, by omega, h2, h3⟩
              · rintro ⟨r, c, h1, h2, h3, h4⟩
                refine ⟨r, c, ?_, h2, h3, h4⟩
                by_cases z2 : r = k
                · rw [z2] at h3; exact absurd h3.symm q
                · omega
          · simp (disch := omega) only [b_Target_lookFrom_89 hg, b_Target_lookFrom_134, ↓reduceIte, nadd, nmul, nsub, nlt, neq, ncl, nvi, ndiv, nrem, exI, exJ, exV, eq_self, true_and, and_true, true_or, or_true, if_true, if_false, not_true, not_false_eq_true, false_and, and_false, decide_true, decide_false, bi_T, bi_F, bi_0, bi_1, bi_z, bft, n10, n01, Nat.reduceEqDiff, Nat.reduceLT, Nat.reduceAdd, Nat.reduceMul, reduceCtorEq, hj, eT, bt_ush, qb]
            refine ihj I4 r1 ?_
            intro z hz x hx
            rw [r2 z hz x hx]
            constructor
            · rintro ⟨r, c, h1, h2, h3⟩
              exact ⟨r, c, by omega, h2, h3⟩
            · rintro ⟨r, c, h1, h2, h3, h4, h5⟩
              refine ⟨r, c, ?_, h2, h3, h4, h5⟩
              by_cases z2 : r = k ∧ c = j
              · rw [z2.1, z2.2, et, qb] at h5; cases h5
              · omega
      refine inner 0 (by omega) I3 (fun _ _ => rfl) ?_
      intro z hz x hx
      rw [f4, g4 z hz x hx]
      constructor
      · rintro ⟨r, c, h1, h2, h3⟩
        exact ⟨r, c, by omega, h2, h3⟩
      · rintro ⟨r, c, h1, h2, h3⟩
        exact ⟨r, c, by omega, h2, h3⟩
  -- columns
  have loop1 : ∀ k, k ≤ 32 → ∀ I2, (∀ a, a ≠ 54 + dp → a ≠ 64 + dp → a ≠ 74 + dp → I2 a = I a) → (∀ c, c < k → I2 (54 + dp) c = nI (prj c dp l)) → a_wp aTab aMX (d + 1) m_Target_lookFrom 10 [.ref 50, .ref 7, .int (nI dp), .int (nI l), .int (nI k), aU, aU] [] (g, I2, J) Q := by
    refine dn ?_ ?_
    · intro I2 g1 g2
      simp (disch := omega) only [b_Target_lookFrom_10, b_Target_lookFrom_39 hg, ↓reduceIte, nadd, nmul, nsub, nlt, neq, ncl, nvi, ndiv, nrem, exI, exJ, exV, eq_self, true_and, and_true, true_or, or_true, if_true, if_false, not_true, not_false_eq_true, false_and, and_false, decide_true, decide_false, bi_T, bi_F, bi_0, bi_1, bi_z, bft, n10, n01, Nat.reduceEqDiff, Nat.reduceLT, Nat.reduceAdd, Nat.reduceMul, reduceCtorEq, Nat.lt_irrefl, c1]
      rw [c_fillI c2 c3 (by decide)]
      simp only [exV, true_and]
      rw [b_Target_lookFrom_49]
      refine loop3 0 (by omega) _ (fun a h1 h2 h3 => by rw [fl2_r h3]; exact g1 a h1 h2 h3) (fun c hc => by rw [fl2_r (by omega)]; exact g2 c hc) (fun r hr => absurd hr (by omega)) ?_ _ _
      intro z hz x hx
      rw [fl2_in (by omega) hz, bt_nI hx, Nat.zero_testBit]
      constructor
      · intro h; cases h
      · rintro ⟨r, c, h1, -⟩; omega
    · intro k hk ih I2 g1 g2
      rw [b_Target_lookFrom_10]
      simp (disch := omega) only [b_Target_lookFrom_17 hg, b_Target_lookFrom_32, ↓reduceIte, nadd, nmul, nsub, nlt, neq, ncl, nvi, ndiv, nrem, exI, exJ, exV, eq_self, true_and, and_true, true_or, or_true, if_true, if_false, not_true, not_false_eq_true, false_and, and_false, decide_true, decide_false, bi_T, bi_F, bi_0, bi_1, bi_z, bft, n10, n01, Nat.reduceEqDiff, Nat.reduceLT, Nat.reduceAdd, Nat.reduceMul, reduceCtorEq, hk, c_project, a1, a2, a3]
      refine ih _ (fun a h1 h2 h3 => by rw [u2_r h1]; exact g1 a h1 h2 h3) ?_
      intro c hc
      by_cases q : c = k
      · rw [q, u2_s]
      · rw [u2_k q]; exact g2 c (by omega)
  exact loop1 0 (by omega) I (fun _ _ _ _ => rfl) (fun c hc => absurd hc (by omega))
def TGs (S : Nat → Nat → Nat) (T : Nat → Int32) (I : Nat → Nat → Int32) (J : Nat → Nat → Int64) : Prop := I 50 0 = nI (tCells T) ∧ J 50 1 = lN (2 ^ tCells T - 1) ∧ I 50 2 = nI (min 8 (S 10 0)) ∧ CL T 512 (I 51) (I 52) ∧ ∀ dp, 1 ≤ dp → dp ≤ min 8 (S 10 0) → tgd T (S 10 0) dp I
theorem c_tLookAt (hg : Geo g) (hS : CS S I) (hc : tCells (I 14) ≤ 64) (hQ : ∀ I' J', (∀ a, ¬ (50 ≤ a ∧ a ≤ 82) → I' a = I a) → (∀ a k, ¬ (a = 50 ∧ k = 1) → J' a k = J a k) → TGs S (I 14) I' J' → Q none (g, I', J')) : a_call aTab aMX (d + 3) m_Target_lookAt [.ref 50, .ref 7] (g, I, J) Q := by
  have ht := sb10 hS.2
  rw [e_Target_lookAt, b_Target_lookAt_0 hg]
  generalize hT : I 14 = T at *
  -- by depth
  have deeps : ∀ k, k ≤ min 8 (S 10 0) + 1 → 1 ≤ k → ∀ I2 J2, (∀ a, ¬ (50 ≤ a ∧ a ≤ 82) → I2 a = I a) → (∀ a k, ¬ (a = 50 ∧ k = 1) → J2 a k = J a k) → I2 50 0 = nI (tCells T) → J2 50 1 = lN (2 ^ tCells T - 1) → I2 50 2 = nI (min 8 (S 10 0)) → CL T 512 (I2 51) (I2 52) → (∀ dp, 1 ≤ dp → dp < k → tgd T (S 10 0) dp I2) → ∀ v3, a_wp aTab aMX (d + 2) m_Target_lookAt 130 [.ref 50, .ref 7, .int (nI k), v3] [] (g, I2, J2) Q := by
    refine dn ?_ ?_
    · intro _ I2 J2 g1 g2 g3 g4 g5 g6 g7 v3
      have q : min 8 (S 10 0) < min 8 (S 10 0) + 1 := by omega
      simp (disch := omega) only [b_Target_lookAt_130 hg, b_Target_lookAt_150, ↓reduceIte, nadd, nmul, nsub, nlt, neq, ncl, nvi, ndiv, nrem, exI, exJ, exV, eq_self, true_and, and_true, true_or, or_true, if_true, if_false, not_true, not_false_eq_true, false_and, and_false, decide_true, decide_false, bi_T, bi_F, bi_0, bi_1, bi_z, bft, n10, n01, Nat.reduceEqDiff, Nat.reduceLT, Nat.reduceAdd, Nat.reduceMul, reduceCtorEq, g5, q]
      exact hQ I2 J2 g1 g2 ⟨g3, g4, g5, g6, fun dp h1 h2 => g7 dp h1 (by omega)⟩
    · intro k hk ih hk1 I2 J2 g1 g2 g3 g4 g5 g6 g7 v3
      have q : ¬ min 8 (S 10 0) < k := by omega
      have hS2 : CS S I2 := ⟨fun a k h1 h2 => by rw [g1 a (by omega)]; exact hS.1 a k h1 h2, hS.2⟩
      rw [b_Target_lookAt_130 hg, g5]
      simp (disch := omega) only [b_Target_lookAt_138 hg, ↓reduceIte, nadd, nmul, nsub, nlt, neq, ncl, nvi, ndiv, nrem, exI, exJ, exV, eq_self, true_and, and_true, true_or, or_true, if_true, if_false, not_true, not_false_eq_true, false_and, and_false, decide_true, decide_false, bi_T, bi_F, bi_0, bi_1, bi_z, bft, n10, n01, Nat.reduceEqDiff, Nat.reduceLT, Nat.reduceAdd, Nat.reduceMul, reduceCtorEq, q]
      refine c_lookFrom hg hS2 hk1 (by omega) (by omega) ?_
      intro I3 r1 r2
      refine ⟨rfl, ?_⟩
      rw [g1 14 (by omega), hT] at r2
      rw [b_Target_lookAt_144, nadd]
      refine ih (by omega) I3 J2 (fun a ha => by rw [r1 a (by omega) (by omega) (by omega)]; exact g1 a ha) g2 ?_ g4 ?_ ?_ ?_ _
      · rw [r1 50 (by omega) (by omega) (by omega)]; exact g3
      · rw [r1 50 (by omega) (by omega) (by omega)]; exact g5
      · rw [r1 51 (by omega) (by omega) (by omega), r1 52 (by omega) (by omega) (by omega)]; exact g6
      · intro dp h1 h2
        by_cases z : dp = k
        · rw [z]; exact r2
        · have := g7 dp h1 (by omega)
          unfold tgd at this ⊢
          rw [r1 (54 + dp) (by omega) (by omega) (by omega), r1 (64 + dp) (by omega) (by omega) (by omega), r1 (74 + dp) (by omega) (by omega) (by omega)]
          exact this
  -- the cells
  have key : ∀ r, r ≤ 16 → ∀ I2, (∀ a, ¬ (50 ≤ a ∧ a ≤ 82) → I2 a = I a) → I2 50 0 = nI (nC T (32 * r)) → CL T (32 * r) (I2 51) (I2 52) → ∀ v3, a_wp aTab aMX (d + 2) m_Target_lookAt 7 [.ref 50, .ref 7, .int (nI r), v3] [] (g, I2, J) Q := by
    refine dn ?_ ?_
    · intro I2 g1 g3 g4 v3
      have e : nC T (32 * 16) = tCells T := nC_all T
      rw [e] at g3
      have hl : I2 10 0 = nI (S 10 0) := by rw [g1 10 (by omega)]; exact cs10 hS 0
      simp (disch := omega) only [b_Target_lookAt_7, ↓reduceIte, nadd, nmul, nsub, nlt, neq, ncl, nvi, ndiv, nrem, exI, exJ, exV, eq_self, true_and, and_true, true_or, or_true, if_true, if_false, not_true, not_false_eq_true, false_and, and_false, decide_true, decide_false, bi_T, bi_F, bi_0, bi_1, bi_z, bft, n10, n01, Nat.reduceEqDiff, Nat.reduceLT, Nat.reduceAdd, Nat.reduceMul, reduceCtorEq, Nat.lt_irrefl]
      have tail : ∀ x : Int64, x = lN (2 ^ tCells T - 1) → ∀ v2 v3, a_wp aTab aMX (d + 2) m_Target_lookAt 110 [.ref 50, .ref 7, v2, v3] [.long x, .ref 50] (g, I2, J) Q := by
        intro x hx v2 v3
        rw [b_Target_lookAt_110 hg]
        have el : (if I2 10 (nI 0).toNatClampNeg < nI 8 then I2 10 (nI 0).toNatClampNeg else nI 8) = nI (min 8 (S 10 0)) := by
          rw [show (nI 0).toNatClampNeg = 0 from rfl, hl]
          by_cases q : S 10 0 < 8
          · rw [if_pos (by rw [nlt (by omega) (by omega)]; exact q), show min 8 (S 10 0) = S 10 0 by omega]
          · rw [if_neg (by rw [nlt (by omega) (by omega)]; exact q), show min 8 (S 10 0) = 8 by omega]
        rw [el]
        refine deeps 1 (by omega) (Nat.le_refl _) _ (u2 J 50 1 x) (fun a ha => by rw [u2_r (by omega)]; exact g1 a ha) (fun a k hk => show u2 J 50 1 x a k = J a k from if_neg hk) (by rw [u2_k (by decide)]; exact g3) (by rw [u2_s, hx]) u2_s (by rw [u2_r (by decide), u2_r (by decide)]; exact g4) (fun dp h1 h2 => by omega) _
      rw [b_Target_lookAt_86 hg, g3]
      by_cases q : tCells T = 64
      · rw [if_pos (by rw [q]), b_Target_lookAt_96]
        exact tail _ (by rw [q]; decide) _ _
      · rw [if_neg (by rw [neq (by omega) (by omega)]; exact q), b_Target_lookAt_102 hg, g3, lshl1 (by omega), Nat.one_shiftLeft, lN_sub (Nat.two_pow_pos _)]
        exact tail _ rfl _ _
    · intro r hr ih I2 g1 g3 g4 v3
      simp (disch := omega) only [b_Target_lookAt_7, b_Target_lookAt_13, ↓reduceIte, nadd, nmul, nsub, nlt, neq, ncl, nvi, ndiv, nrem, exI, exJ, exV, eq_self, true_and, and_true, true_or, or_true, if_true, if_false, not_true, not_false_eq_true, false_and, and_false, decide_true, decide_false, bi_T, bi_F, bi_0, bi_1, bi_z, bft, n10, n01, Nat.reduceEqDiff, Nat.reduceLT, Nat.reduceAdd, Nat.reduceMul, reduceCtorEq, hr]
      have inner : ∀ c, c ≤ 32 → ∀ I2, (∀ a, ¬ (50 ≤ a ∧ a ≤ 82) → I2 a = I a) → I2 50 0 = nI (nC T (32 * r + c)) → CL T (32 * r + c) (I2 51) (I2 52) → a_wp aTab aMX (d + 2) m_Target_lookAt 15 [.ref 50, .ref 7, .int (nI r), .int (nI c)] [] (g, I2, J) Q := by
        refine dn ?_ ?_
        · intro I2 g1 g3 g4
          simp (disch := omega) only [b_Target_lookAt_15, b_Target_lookAt_80, ↓reduceIte, nadd, nmul, nsub, nlt, neq, ncl, nvi, ndiv, nrem, exI, exJ, exV, eq_self, true_and, and_true, true_or, or_true, if_true, if_false, not_true, not_false_eq_true, false_and, and_false, decide_true, decide_false, bi_T, bi_F, bi_0, bi_1, bi_z, bft, n10, n01, Nat.reduceEqDiff, Nat.reduceLT, Nat.reduceAdd, Nat.reduceMul, reduceCtorEq, Nat.lt_irrefl]
          rw [show 32 * r + 32 = 32 * (r + 1) by omega] at g3 g4
          exact ih I2 g1 g3 g4 _
        · intro c hc2 ihc I2 g1 g3 g4
          have eT : I2 14 r = T r := by rw [g1 14 (by omega), hT]
          have et : tld T (32 * r + c) = bt (T r) c := by unfold tld; rw [show (32 * r + c) / 32 = r by omega, show (32 * r + c) % 32 = c by omega]
          have es := nC_s T (32 * r + c)
          rw [show 32 * r + (c + 1) = 32 * r + c + 1 by omega] at ihc
          rw [b_Target_lookAt_15]
          cases qb : bt (T r) c
          · rw [et, qb] at es
            have es : nC T (32 * r + c + 1) = nC T (32 * r + c) := es
            rw [es] at ihc
            simp (disch := omega) only [b_Target_lookAt_21 hg, b_Target_lookAt_74, ↓reduceIte, nadd, nmul, nsub, nlt, neq, ncl, nvi, ndiv, nrem, exI, exJ, exV, eq_self, true_and, and_true, true_or, or_true, if_true, if_false, not_true, not_false_eq_true, false_and, and_false, decide_true, decide_false, bi_T, bi_F, bi_0, bi_1, bi_z, bft, n10, n01, Nat.reduceEqDiff, Nat.reduceLT, Nat.reduceAdd, Nat.reduceMul, reduceCtorEq, hc2, eT, bt_ush, qb]
            refine ihc I2 g1 g3 ?_
            intro p hp htp
            by_cases z : p = 32 * r + c
            · rw [z, et, qb] at htp; cases htp
            · exact g4 p (by omega) htp
          · rw [et, qb] at es
            have es : nC T (32 * r + c + 1) = nC T (32 * r + c) + 1 := es
            have hl := nC_le (show 32 * r + c < 512 by omega) (et.trans qb)
            have q64 : nC T (32 * r + c) < 64 := by omega
            rw [es] at ihc
            simp (disch := omega) only [b_Target_lookAt_21 hg, b_Target_lookAt_35 hg, ↓reduceIte, nadd, nmul, nsub, nlt, neq, ncl, nvi, ndiv, nrem, exI, exJ, exV, eq_self, true_and, and_true, true_or, or_true, if_true, if_false, not_true, not_false_eq_true, false_and, and_false, decide_true, decide_false, bi_T, bi_F, bi_0, bi_1, bi_z, bft, n10, n01, Nat.reduceEqDiff, Nat.reduceLT, Nat.reduceAdd, Nat.reduceMul, reduceCtorEq, hc2, eT, bt_ush, qb, g3, q64]
            rw [b_Target_lookAt_44 hg, g3]
            have x1 : u2 I2 51 (nI (nC T (32 * r + c))).toNatClampNeg (nI c) 50 0 = nI (nC T (32 * r + c)) := by rw [u2_a (by decide)]; exact g3
            rw [x1]
            have x2 : u2 (u2 I2 51 (nI (nC T (32 * r + c))).toNatClampNeg (nI c)) 52 (nI (nC T (32 * r + c))).toNatClampNeg (nI r) 50 0 = nI (nC T (32 * r + c)) := by rw [u2_a (by decide), u2_a (by decide)]; exact g3
            rw [x2]
            simp (disch := omega) only [b_Target_lookAt_74, ↓reduceIte, nadd, nmul, nsub, nlt, neq, ncl, nvi, ndiv, nrem, exI, exJ, exV, eq_self, true_and, and_true, true_or, or_true, if_true, if_false, not_true, not_false_eq_true, false_and, and_false, decide_true, decide_false, bi_T, bi_F, bi_0, bi_1, bi_z, bft, n10, n01, Nat.reduceEqDiff, Nat.reduceLT, Nat.reduceAdd, Nat.reduceMul, reduceCtorEq]
            refine ihc _ (fun a ha => by rw [u2_r (by omega), u2_r (by omega), u2_r (by omega)]; exact g1 a ha) u2_s ?_
            refine CL_s g4 ?_ (fun i hi => ?_) ?_ (fun i hi => ?_)
            · rw [u2_a (by decide), u2_a (by decide), u2_s, show (32 * r + c) % 32 = c by omega]
            · rw [u2_a (by decide), u2_a (by decide), u2_k hi]
            · rw [u2_a (by decide), u2_s, show (32 * r + c) / 32 = r by omega]
            · rw [u2_a (by decide), u2_k hi, u2_a (by decide)]
      exact inner 0 (by omega) I2 g1 g3 g4
  refine key 0 (by omega) _ (fun a ha => u2_r (by omega)) u2_s (fun p hp => absurd hp (by omega)) _
end TG
