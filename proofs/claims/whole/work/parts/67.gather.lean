/-! ===== the class gathers a figure's shadows ===== -/
section PGA
variable {d : Nat} {g : aG} {I : Nat → Nat → Int32} {J : Nat → Nat → Int64} {Q : aQ} {S : Nat → Nat → Nat} {T : Nat → Int32}
theorem mkS_nz {f dp x y : Nat} (h : plOk S T f dp x y) : mkS S T f dp x y ≠ 0 := by
  obtain ⟨h1, r, c, hr, hc, hs⟩ := h
  have ht := h1 r c hr hc hs
  have hk := nC_le (show 32 * r + c < 512 by omega) ht
  intro z
  have e : (mkS S T f dp x y).testBit (nC T (32 * r + c)) = true := by
    unfold mkS
    rw [bl_bit, decide_eq_true hk, Bool.true_and, mkb_at hr hc ht]
    exact hs
  rw [z, Nat.zero_testBit] at e
  cases e
theorem TGs_f {p : Nat} {I' : Nat → Nat → Int32} {J' : Nat → Nat → Int64} (hp : 123 ≤ p) (h : PF p I I' J J') (hT : TGs S T I J) : TGs S T I' J' := by
  have e : ∀ a, a < 123 → I' a = I a := fun a ha => (h a (by omega)).1
  have e2 : J' 50 = J 50 := (h 50 (by omega)).2
  refine ⟨?_, ?_, ?_, ?_, ?_⟩
  · rw [e 50 (by omega)]; exact hT.1
  · rw [e2]; exact hT.2.1
  · rw [e 50 (by omega)]; exact hT.2.2.1
  · rw [e 51 (by omega), e 52 (by omega)]; exact hT.2.2.2.1
  · intro dp h1 h2
    have := hT.2.2.2.2 dp h1 h2
    unfold tgd at this ⊢
    rw [e (54 + dp) (by omega), e (64 + dp) (by omega), e (74 + dp) (by omega)]
    exact this
theorem CS_f {p : Nat} {I' : Nat → Nat → Int32} {J' : Nat → Nat → Int64} (hp : 123 ≤ p) (h : PF p I I' J J') (hS : CS S I) : CS S I' := ⟨fun a k h1 h2 => by rw [(h a (by omega)).1]; exact hS.1 a k h1 h2, hS.2⟩
theorem c_gather (hg : Geo g) (hS : CS S I) (hT : TGs S T I J) (hc64 : tCells T ≤ 64) {p f : Nat} (hP : PO g p) (hf : f < 6) (hQ : ∀ I' J', PF p I I' J J' → PI p (plL S T f (nPl S)) I' J' → Q none (g, I', J')) : a_call aTab aMX (d + 4) m_Prints_gather [.ref p, .ref 7, .int (nI f), .ref 50] (g, I, J) Q := by
  have ht := sb10 hS.2
  have p0 := hP.1
  have k0 := hP.2.1
  have key : ∀ D, D ≤ min 8 (S 10 0) → ∀ I2 J2, PF p I I2 J J2 → PI p (plL S T f (512 * D)) I2 J2 → ∀ v5 v6 v7 v8, a_wp aTab aMX (d + 3) m_Prints_gather 42 [.ref p, .ref 7, .int (nI f), .ref 50, .int (nI (D + 1)), v5, v6, v7, v8] [] (g, I2, J2) Q := by
    refine dn ?_ ?_
    · intro I2 J2 hF hI v5 v6 v7 v8
      have T2 := TGs_f p0 hF hT
      have q : min 8 (S 10 0) < min 8 (S 10 0) + 1 := by omega
      simp (disch := omega) only [b_Prints_gather_42 hg, b_Prints_gather_172, ↓reduceIte, nadd, nmul, nsub, nlt, neq, ncl, nvi, ndiv, nrem, exI, exJ, exV, eq_self, true_and, and_true, true_or, or_true, if_true, if_false, not_true, not_false_eq_true, false_and, and_false, decide_true, decide_false, bi_T, bi_F, bi_0, bi_1, bi_z, bft, n10, n01, Nat.reduceEqDiff, Nat.reduceLT, Nat.reduceAdd, Nat.reduceMul, reduceCtorEq, T2.2.2.1, q]
      exact hQ I2 J2 hF hI
    · intro D hD ih I2 J2 hF hI v5 v6 v7 v8
      have T2 := TGs_f p0 hF hT
      have hl : D + 1 ≤ S 10 0 := by omega
      obtain ⟨⟨a1, a2, a3⟩, ⟨b1, b2, b3⟩, -⟩ := rows9 hg (D + 1) (by omega)
      obtain ⟨t1, t2, -⟩ := T2.2.2.2.2 (D + 1) (by omega) (by omega)
      have hA := prj_c (c := 31) (by omega) hl (by omega)
      have hB := prj_r (r := 15) (by omega) hl (by omega)
      have e54 := t1 31 (by omega)
      have e64 := t2 15 (by omega)
      have q : ¬ min 8 (S 10 0) < D + 1 := by omega
      have eA : (if prj 31 (D + 1) (S 10 0) + 1 < 32 then nI (prj 31 (D + 1) (S 10 0) + 1) else nI 32) = nI (prj 31 (D + 1) (S 10 0) + 1) := by
        by_cases q : prj 31 (D + 1) (S 10 0) + 1 < 32
        · exact if_pos q
        · rw [if_neg q, show prj 31 (D + 1) (S 10 0) + 1 = 32 by omega]
      have eB : (if prj 15 (D + 1) (S 10 0) + 1 < 16 then nI (prj 15 (D + 1) (S 10 0) + 1) else nI 16) = nI (prj 15 (D + 1) (S 10 0) + 1) := by
        by_cases q : prj 15 (D + 1) (S 10 0) + 1 < 16
        · exact if_pos q
        · rw [if_neg q, show prj 15 (D + 1) (S 10 0) + 1 = 16 by omega]
      rw [b_Prints_gather_42 hg]
      have q9 : D + 1 < 9 := by omega
      simp (disch := omega) only [b_Prints_gather_51 hg, ↓reduceIte, nadd, nmul, nsub, nlt, neq, ncl, nvi, ndiv, nrem, exI, exJ, exV, eq_self, true_and, and_true, true_or, or_true, if_true, if_false, not_true, not_false_eq_true, false_and, and_false, decide_true, decide_false, bi_T, bi_F, bi_0, bi_1, bi_z, bft, n10, n01, Nat.reduceEqDiff, Nat.reduceLT, Nat.reduceAdd, Nat.reduceMul, reduceCtorEq, T2.2.2.1, q, q9, a1, a2, a3, b1, b2, b3, e54, e64]
      rw [eA, eB]
      have skipx : ∀ x, prj 31 (D + 1) (S 10 0) < x → x ≤ 32 → plL S T f (512 * D + 16 * x) = plL S T f (512 * D + 16 * (prj 31 (D + 1) (S 10 0) + 1)) := by
        intro x
        induction x with
        | zero => intro h; omega
        | succ x ihx =>
          intro h1 h2
          by_cases z : x = prj 31 (D + 1) (S 10 0)
          · rw [z]
          · rw [← ihx (by omega) (by omega)]
            have row : ∀ y, y ≤ 16 → plL S T f (512 * D + 16 * x + y) = plL S T f (512 * D + 16 * x) := by
              intro y
              induction y with
              | zero => intro _; rfl
              | succ y ihy =>
                intro hy
                have es := plL_s (S := S) (T := T) (f := f) (dp := D + 1) (y := y) (by omega) (show x < 32 by omega) (by omega)
                rw [show D + 1 - 1 = D by omega] at es
                rw [es, plA_vis hS.2 hl (fun z => by omega), ihy (by omega)]
            have := row 16 (by omega)
            rw [show 512 * D + 16 * (x + 1) = 512 * D + 16 * x + 16 by omega]
            exact this
      refine dn (P := fun x => ∀ I3 J3, PF p I I3 J J3 → PI p (plL S T f (512 * D + 16 * x)) I3 J3 → ∀ v8, a_wp aTab aMX (d + 3) m_Prints_gather 92 [.ref p, .ref 7, .int (nI f), .ref 50, .int (nI (D + 1)), .int (nI (prj 31 (D + 1) (S 10 0) + 1)), .int (nI (prj 15 (D + 1) (S 10 0) + 1)), .int (nI x), v8] [] (g, I3, J3) Q) (n := prj 31 (D + 1) (S 10 0) + 1) ?_ ?_ 0 (by omega) I2 J2 hF hI _
      · intro I3 J3 hF3 hI3 v8
        rw [← skipx 32 hA (by omega)] at hI3
        simp (disch := omega) only [b_Prints_gather_92, b_Prints_gather_166, ↓reduceIte, nadd, nmul, nsub, nlt, neq, ncl, nvi, ndiv, nrem, exI, exJ, exV, eq_self, true_and, and_true, true_or, or_true, if_true, if_false, not_true, not_false_eq_true, false_and, and_false, decide_true, decide_false, bi_T, bi_F, bi_0, bi_1, bi_z, bft, n10, n01, Nat.reduceEqDiff, Nat.reduceLT, Nat.reduceAdd, Nat.reduceMul, reduceCtorEq, Nat.lt_irrefl]
        exact ih I3 J3 hF3 hI3 _ _ _ _
      · intro x hx ihx I3 J3 hF3 hI3 v8
        simp (disch := omega) only [b_Prints_gather_92, b_Prints_gather_99, ↓reduceIte, nadd, nmul, nsub, nlt, neq, ncl, nvi, ndiv, nrem, exI, exJ, exV, eq_self, true_and, and_true, true_or, or_true, if_true, if_false, not_true, not_false_eq_true, false_and, and_false, decide_true, decide_false, bi_T, bi_F, bi_0, bi_1, bi_z, bft, n10, n01, Nat.reduceEqDiff, Nat.reduceLT, Nat.reduceAdd, Nat.reduceMul, reduceCtorEq, hx]
        have skipy : ∀ y, prj 15 (D + 1) (S 10 0) < y → y ≤ 16 → plL S T f (512 * D + 16 * x + y) = plL S T f (512 * D + 16 * x + (prj 15 (D + 1) (S 10 0) + 1)) := by
          intro y
          induction y with
          | zero => intro h; omega
          | succ y ihy =>
            intro h1 h2
            by_cases z : y = prj 15 (D + 1) (S 10 0)
            · rw [z]
            · have es := plL_s (S := S) (T := T) (f := f) (dp := D + 1) (y := y) (by omega) (show x < 32 by omega) (by omega)
              rw [show D + 1 - 1 = D by omega] at es
              rw [es, plA_vis hS.2 hl (fun z => by omega), ihy (by omega) (by omega)]
        refine dn (P := fun y => ∀ I4 J4, PF p I I4 J J4 → PI p (plL S T f (512 * D + 16 * x + y)) I4 J4 → a_wp aTab aMX (d + 3) m_Prints_gather 102 [.ref p, .ref 7, .int (nI f), .ref 50, .int (nI (D + 1)), .int (nI (prj 31 (D + 1) (S 10 0) + 1)), .int (nI (prj 15 (D + 1) (S 10 0) + 1)), .int (nI x), .int (nI y)] [] (g, I4, J4) Q) (n := prj 15 (D + 1) (S 10 0) + 1) ?_ ?_ 0 (by omega) I3 J3 hF3 hI3
        · intro I4 J4 hF4 hI4
          rw [← skipy 16 hB (by omega)] at hI4
          simp (disch := omega) only [b_Prints_gather_102, b_Prints_gather_160, ↓reduceIte, nadd, nmul, nsub, nlt, neq, ncl, nvi, ndiv, nrem, exI, exJ, exV, eq_self, true_and, and_true, true_or, or_true, if_true, if_false, not_true, not_false_eq_true, false_and, and_false, decide_true, decide_false, bi_T, bi_F, bi_0, bi_1, bi_z, bft, n10, n01, Nat.reduceEqDiff, Nat.reduceLT, Nat.reduceAdd, Nat.reduceMul, reduceCtorEq, Nat.lt_irrefl]
          exact ihx I4 J4 hF4 hI4 _
        · intro y hy ihy I4 J4 hF4 hI4
          have S4 := CS_f p0 hF4 hS
          have T4 := TGs_f p0 hF4 hT
          have es := plL_s (S := S) (T := T) (f := f) (dp := D + 1) (y := y) (by omega) (show x < 32 by omega) (by omega)
          rw [show D + 1 - 1 = D by omega] at es
          rw [show 512 * D + 16 * x + (y + 1) = 512 * D + 16 * x + (y + 1) from rfl, es] at ihy
          rw [b_Prints_gather_102]
          simp (disch := omega) only [b_Prints_gather_109, ↓reduceIte, nadd, nmul, nsub, nlt, neq, ncl, nvi, ndiv, nrem, exI, exJ, exV, eq_self, true_and, and_true, true_or, or_true, if_true, if_false, not_true, not_false_eq_true, false_and, and_false, decide_true, decide_false, bi_T, bi_F, bi_0, bi_1, bi_z, bft, n10, n01, Nat.reduceEqDiff, Nat.reduceLT, Nat.reduceAdd, Nat.reduceMul, reduceCtorEq, hy]
          refine c_staysWithin hg S4 T4 hf (by omega) (by omega) (by omega) (by omega) ?_ ?_
          · intro hok
            simp (disch := omega) only [b_Prints_gather_121, b_Prints_gather_124, b_Prints_gather_137, ↓reduceIte, nadd, nmul, nsub, nlt, neq, ncl, nvi, ndiv, nrem, exI, exJ, exV, eq_self, true_and, and_true, true_or, or_true, if_true, if_false, not_true, not_false_eq_true, false_and, and_false, decide_true, decide_false, bi_T, bi_F, bi_0, bi_1, bi_z, bft, n10, n01, Nat.reduceEqDiff, Nat.reduceLT, Nat.reduceAdd, Nat.reduceMul, reduceCtorEq, c_maskAt hg S4 T4 hc64 hf (show 1 ≤ D + 1 by omega) (show D + 1 ≤ min 8 (S 10 0) by omega) (show x < 32 by omega) (show y < 16 by omega), k0]
            refine c_add hg hP hI4 (plL_ok hc64 _) (mkS_lt hc64) (mkS_nz hok) (plL_room hS.2 hD (by omega) (by omega)) ?_ ?_
            · intro hnew I5 J5 hF5 hI5
              simp (disch := omega) only [b_Prints_gather_154, ↓reduceIte, nadd, nmul, nsub, nlt, neq, ncl, nvi, ndiv, nrem, exI, exJ, exV, eq_self, true_and, and_true, true_or, or_true, if_true, if_false, not_true, not_false_eq_true, false_and, and_false, decide_true, decide_false, bi_T, bi_F, bi_0, bi_1, bi_z, bft, n10, n01, Nat.reduceEqDiff, Nat.reduceLT, Nat.reduceAdd, Nat.reduceMul, reduceCtorEq]
              refine ihy I5 J5 (PF_t hF4 hF5) ?_
              rw [plA_y hok hnew, Nat.mul_comm 32 (D + 1)]
              exact hI5
            · intro hnew
              simp (disch := omega) only [b_Prints_gather_154, ↓reduceIte, nadd, nmul, nsub, nlt, neq, ncl, nvi, ndiv, nrem, exI, exJ, exV, eq_self, true_and, and_true, true_or, or_true, if_true, if_false, not_true, not_false_eq_true, false_and, and_false, decide_true, decide_false, bi_T, bi_F, bi_0, bi_1, bi_z, bft, n10, n01, Nat.reduceEqDiff, Nat.reduceLT, Nat.reduceAdd, Nat.reduceMul, reduceCtorEq]
              refine ihy I4 J4 hF4 ?_
              rw [plA_n (fun z => hnew z.2)]
              exact hI4
          · intro hok
            simp (disch := omega) only [b_Prints_gather_121, b_Prints_gather_154, ↓reduceIte, nadd, nmul, nsub, nlt, neq, ncl, nvi, ndiv, nrem, exI, exJ, exV, eq_self, true_and, and_true, true_or, or_true, if_true, if_false, not_true, not_false_eq_true, false_and, and_false, decide_true, decide_false, bi_T, bi_F, bi_0, bi_1, bi_z, bft, n10, n01, Nat.reduceEqDiff, Nat.reduceLT, Nat.reduceAdd, Nat.reduceMul, reduceCtorEq]
            refine ihy I4 J4 hF4 ?_
            rw [plA_n (fun z => hok z.1)]
            exact hI4
  obtain ⟨-, -, ⟨r3, k3, n3⟩, ⟨r4, k4, n4⟩, ⟨r5, k5, n5⟩, ⟨r6, k6, n6⟩, ⟨r7, k7, n7⟩, ⟨r8, k8, n8⟩⟩ := hP
  rw [e_Prints_gather, b_Prints_gather_0]
  simp (disch := omega) only [b_Prints_gather_23, b_Prints_gather_31, b_Prints_gather_39, ↓reduceIte, nadd, nmul, nsub, nlt, neq, ncl, nvi, ndiv, nrem, exI, exJ, exV, eq_self, true_and, and_true, true_or, or_true, if_true, if_false, not_true, not_false_eq_true, false_and, and_false, decide_true, decide_false, bi_T, bi_F, bi_0, bi_1, bi_z, bft, n10, n01, Nat.reduceEqDiff, Nat.reduceLT, Nat.reduceAdd, Nat.reduceMul, reduceCtorEq, k0, r5, r6, r7, c_fillI k7 n7, c_fillI k6 n6, c_fillL k5 n5]
  refine key 0 (by omega) _ _ ?_ ⟨?_, ?_, ?_, ?_, ?_, ?_, ?_, ?_⟩ _ _ _ _
  · intro a ha
    rw [fl2_r (by omega), fl2_r (by omega), fl2_r (by omega), u2_r (by omega), u2_r (by omega), u2_r (by omega)]
    exact ⟨rfl, rfl⟩
  · rw [fl2_r (by omega), fl2_r (by omega), u2_k (by decide), u2_s]; rfl
  · rw [fl2_r (by omega), fl2_r (by omega), u2_s]; rfl
  · rw [fl2_r (by omega), u2_s]; rfl
  · exact fun i hi => absurd hi (Nat.not_lt_zero _)
  · intro c hc w hw
    rw [fl2_in (by omega) (by omega)]
    congr 1
  · intro c hc
    rw [fl2_in (by omega) (by omega)]; rfl
  · intro c hc
    rw [fl2_r (by omega), fl2_in (by omega) (by omega)]; rfl
  · exact fun i hi => absurd hi (Nat.not_lt_zero _)
end PGA
