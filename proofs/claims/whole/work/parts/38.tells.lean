/-! ===== what a head tells, by both sides ===== -/
abbrev aLF : Type := Nat → (Nat → Int) → Option Int
def tF (hd : Nat → Nat) (sv tv : Nat → aV) (head : Nat) (E : Nat → Int) : Nat → Option Int
  | 0 => none
  | n + 1 => if hd n = head ∧ tv n E = some 1 then (if head = 3 then some 1 else match sv n E with
    | some x => some x
    | none => tF hd sv tv head E n) else tF hd sv tv head E n
def clp (most w : Nat) (o : Option Int) : Nat := match o with
  | none => w
  | some x => (min (most : Int) x).toNat
def tl (LF : aLF) (head : Nat) (E : Nat → Int) (most w : Nat) : Nat := clp most w (LF head E)
def LWo (sc : Nat → Nat → Int32) (W : Nat → Int32) (c h : Nat) (sv tv : aV) : Prop := (1 ≤ h ∧ h ≤ 3) ∧ sc 16 c = nI h ∧ W (372 + 8 * c) = nI (h - 1) ∧ ∃ s t e s' t' e' m m2 : Nat, (sc 17 c = nI s ∧ sc 18 c = nI t ∧ sc 19 c = nI e) ∧ (W (372 + 8 * c + 3) = nI s' ∧ W (372 + 8 * c + 4) = nI t' ∧ W (372 + 8 * c + 5) = nI t' ∧ W (372 + 8 * c + 6) = nI e') ∧ (e ≤ 400 ∧ e' ≤ 400 ∧ t ≤ e ∧ t' ≤ e' ∧ m ≤ 64 ∧ m2 ≤ 64) ∧ (h ≠ 3 → Der (sc 20) (fun i => W (564 + i)) 0 s' t' s t m sv) ∧ ((t = e ∧ t' = e' ∧ ∀ E, tv E = some 1) ∨ Der (sc 20) (fun i => W (564 + i)) 1 t' e' t e m2 tv)
def LJ (LF : aLF) (sc : Nat → Nat → Int32) (W : Nat → Int32) : Prop := sc 15 0 = W 1 ∧ ∃ (n : Nat) (hd : Nat → Nat) (sv tv : Nat → aV), n ≤ 24 ∧ sc 15 1 = nI n ∧ W 371 = nI n ∧ (∀ c, c < n → LWo sc W c (hd c) (sv c) (tv c)) ∧ ∀ head E, LF head E = tF hd sv tv head E n
theorem LWo_cong {sc sc2 : Nat → Nat → Int32} {W W2 : Nat → Int32} {c h : Nat} {sv tv : aV} (hc : c < 24) (h1 : ∀ a, 15 ≤ a → a ≤ 20 → sc2 a = sc a) (h2 : ∀ i, i = 1 ∨ 371 ≤ i → W2 i = W i) (hl : LWo sc W c h sv tv) : LWo sc2 W2 c h sv tv := by
  have e : (fun i => W2 (564 + i)) = (fun i => W (564 + i)) := funext (fun i => h2 _ (by omega))
  unfold LWo at *
  rw [e, h1 16 (by omega) (by omega), h1 17 (by omega) (by omega), h1 18 (by omega) (by omega), h1 19 (by omega) (by omega), h1 20 (by omega) (by omega), h2 (372 + 8 * c) (by omega), h2 (372 + 8 * c + 3) (by omega), h2 (372 + 8 * c + 4) (by omega), h2 (372 + 8 * c + 5) (by omega), h2 (372 + 8 * c + 6) (by omega)]
  exact hl
theorem LJ_cong {LF : aLF} {sc sc2 : Nat → Nat → Int32} {W W2 : Nat → Int32} (h1 : ∀ a, 15 ≤ a → a ≤ 20 → sc2 a = sc a) (h2 : ∀ i, i = 1 ∨ 371 ≤ i → W2 i = W i) (h : LJ LF sc W) : LJ LF sc2 W2 := by
  obtain ⟨h0, n, hd, sv, tv, hn, e1, e2, h3, h4⟩ := h
  refine ⟨?_, n, hd, sv, tv, hn, ?_, ?_, fun c hc => LWo_cong (by omega) h1 h2 (h3 c hc), h4⟩
  · rw [h1 15 (by omega) (by omega), h2 1 (by omega)]; exact h0
  · rw [h1 15 (by omega) (by omega)]; exact e1
  · rw [h2 371 (by omega)]; exact e2
theorem tF_bd {hd : Nat → Nat} {sv tv : Nat → aV} {head : Nat} {E : Nat → Int} (hE : EB E) : ∀ n, (∀ c, c < n → hd c ≠ 3 → VB 0 (sv c)) → ∀ x, tF hd sv tv head E n = some x → -1000000000 ≤ x ∧ x ≤ 1000000000
  | 0, _, x, hx => by cases hx
  | n + 1, h, x, hx => by
    have ih := tF_bd (hd := hd) (sv := sv) (tv := tv) (head := head) hE n (fun c hc => h c (by omega)) x
    unfold tF at hx
    by_cases q : hd n = head ∧ tv n E = some 1
    · rw [if_pos q] at hx
      by_cases q2 : head = 3
      · rw [if_pos q2] at hx
        cases hx
        omega
      · rw [if_neg q2] at hx
        cases hs : sv n E with
        | none => rw [hs] at hx; exact ih hx
        | some y =>
          rw [hs] at hx
          cases hx
          exact (h n (by omega) (by rw [q.1]; exact q2) E hE _ hs).1
    · rw [if_neg q] at hx
      exact ih hx
theorem min_tn {most : Nat} {x : Int} : (if (most : Int) < x then (most : Int) else if x < 0 then 0 else x) = ((min (most : Int) x).toNat : Int) := by
  repeat' split
  all_goals omega
theorem i32L {n : Nat} : (lN n).toInt32 = nI n := lN_i n
theorem oL_1 {o : Option Int} (h : ∀ x, o = some x → -1000000000 ≤ x ∧ x ≤ 1000000000) : (oL o = lN 1) = (o = some 1) := by
  apply propext
  cases o with
  | none => exact ⟨fun z => absurd z (by decide), fun z => by cases z⟩
  | some x =>
    have hx := h x rfl
    show (lI x = lN 1) ↔ _
    rw [show lN 1 = lI 1 from (lI_n 1).symm, lI_eq (by omega) (by omega) (by decide) (by decide)]
    exact ⟨fun z => by rw [z], fun z => by cases z; rfl⟩
theorem oL_b {o : Option Int} (h : ∀ x, o = some x → -1000000000 ≤ x ∧ x ≤ 1000000000) : (oL o = lN 4611686018427387904) = (o = none) := by
  apply propext
  cases o with
  | none => exact ⟨fun z => rfl, fun z => rfl⟩
  | some x =>
    have hx := h x rfl
    show (lI x = lN 4611686018427387904) ↔ _
    rw [show lN 4611686018427387904 = lI 4611686018427387904 from (lI_n _).symm, lI_eq (by omega) (by omega) (by decide) (by decide)]
    exact ⟨fun z => by omega, fun z => by cases z⟩
/-- of whom it is asked -/
def env (S : Nat → Nat → Nat) (f b h : Nat) (o : Int) : Nat → Int := fun w => match w with
  | 0 => f
  | 1 => b
  | 2 => h
  | 3 => o
  | 4 => S 11 (f * 12 + b)
  | 5 => S 12 (f * 12 + b)
  | 6 => mDp S f b
  | _ => S 9 f
theorem env_EB {S : Nat → Nat → Nat} (hB : SB S) {f b h : Nat} {o : Int} (hf : f < 100) (hb : b < 100) (hh : h < 100) (ho : -1 ≤ o) (ho2 : o < 100) : EB (env S f b h o) := by
  intro w
  have h1 := sb11 hB (f * 12 + b)
  have h2 := sb12 hB (f * 12 + b)
  have h3 := mDp_le hB f b
  have h4 := sb9 hB f
  match w with
  | 0 => show -1000000000 ≤ (f : Int) ∧ (f : Int) ≤ 1000000000; omega
  | 1 => show -1000000000 ≤ (b : Int) ∧ (b : Int) ≤ 1000000000; omega
  | 2 => show -1000000000 ≤ (h : Int) ∧ (h : Int) ≤ 1000000000; omega
  | 3 => show -1000000000 ≤ o ∧ o ≤ 1000000000; omega
  | 4 => show -1000000000 ≤ (S 11 (f * 12 + b) : Int) ∧ (S 11 (f * 12 + b) : Int) ≤ 1000000000; omega
  | 5 => show -1000000000 ≤ (S 12 (f * 12 + b) : Int) ∧ (S 12 (f * 12 + b) : Int) ≤ 1000000000; omega
  | 6 => show -1000000000 ≤ (mDp S f b : Int) ∧ (mDp S f b : Int) ≤ 1000000000; omega
  | n + 7 => show -1000000000 ≤ (S 9 f : Int) ∧ (S 9 f : Int) ≤ 1000000000; omega
theorem w8 {P : Nat → Prop} (h0 : P 0) (h1 : P 1) (h2 : P 2) (h3 : P 3) (h4 : P 4) (h5 : P 5) (h6 : P 6) (h7 : P 7) : ∀ w, w < 8 → P w := fun w hw => match w, hw with
  | 0, _ => h0
  | 1, _ => h1
  | 2, _ => h2
  | 3, _ => h3
  | 4, _ => h4
  | 5, _ => h5
  | 6, _ => h6
  | 7, _ => h7
  | n + 8, hw => absurd hw (by omega)
section TE
variable {d : Nat} {g : aG} {I : Nat → Nat → Int32} {J : Nat → Nat → Int64} {Q : aQ} {S : Nat → Nat → Nat} {E : Nat → Int} {LF : aLF}
theorem c_turnTo (hg : Geo g) (hS : CS S I) {f b h : Nat} {o : Int} (ho : sOn S f b = true) (hb : b < 12) (hQ : ∀ I', Xr 34 I I' → (∀ w, w < 8 → I' 34 w = iI (env S f b h o w)) → Q none (g, I', J)) : a_call aTab aMX (d + 3) m_Asker_turnTo [.ref 33, .int (nI f), .int (nI b), .int (nI h), .int (iI o)] (g, I, J) Q := by
  have h1 := (sOn_lt ho).1
  have h6 := sb7 hS.2 0
  rw [e_Asker_turnTo]
  simp (disch := omega) only [b_Asker_turnTo_0 hg, b_Asker_turnTo_9, c_isOnN hg hS, ho, exI, exJ, exV, eq_self, true_and, and_true, true_or, or_true, if_true, if_false, not_true, not_false_eq_true, false_and, and_false, decide_true, decide_false, bi_T, bi_F, bi_0, bi_1, bi_z, bft, n10, n01, Nat.reduceEqDiff, Nat.reduceLT, Nat.reduceAdd, Nat.reduceMul, reduceCtorEq]
  rw [b_Asker_turnTo_13 hg]
  simp (disch := omega) only [↓reduceIte, nadd, nmul, nsub, nlt, neq, ncl, nvi, ndiv, nrem, nand, nor, nxor, nshl, nshr, exI, exJ, exV, eq_self, true_and, and_true, true_or, or_true, if_true, if_false, not_true, not_false_eq_true, false_and, and_false, decide_true, decide_false, bi_T, bi_F, bi_0, bi_1, bi_z, bft, n10, n01, Nat.reduceEqDiff, Nat.reduceLT, Nat.reduceAdd, Nat.reduceMul, reduceCtorEq]
  generalize hI2 : (u2 (u2 (u2 (u2 (u2 (u2 I 34 0 (nI f)) 34 1 (nI b)) 34 2 (nI h)) 34 3 (iI o)) 34 4 _) 34 5 _) = I2
  have hx : Xr 34 I I2 := by rw [← hI2]; exact Xr_u (Xr_u (Xr_u (Xr_u (Xr_u (Xr_u Xr_rf)))))
  have hS2 : CS S I2 := ⟨fun a k h1 h2 => by rw [hx a (by omega)]; exact hS.1 a k h1 h2, hS.2⟩
  rw [c_depth hg hS2 (by omega) hb]
  simp (disch := omega) only [b_Asker_turnTo_97 hg, ↓reduceIte, nadd, nmul, nsub, nlt, neq, ncl, nvi, ndiv, nrem, nand, nor, nxor, nshl, nshr, exI, exJ, exV, eq_self, true_and, and_true, true_or, or_true, if_true, if_false, not_true, not_false_eq_true, false_and, and_false, decide_true, decide_false, bi_T, bi_F, bi_0, bi_1, bi_z, bft, n10, n01, Nat.reduceEqDiff, Nat.reduceLT, Nat.reduceAdd, Nat.reduceMul, reduceCtorEq]
  refine hQ _ (Xr_u (Xr_u hx)) ?_
  have e9 : (u2 I2 34 6 (nI (sDp S f b))) 9 f = nI (S 9 f) := by rw [u2_r (by decide), cs9 hS2]
  rw [e9]
  subst hI2
  refine w8 ?_ ?_ ?_ ?_ ?_ ?_ ?_ ?_
  · simp only [u2, env, iI_n]; simp
  · simp only [u2, env, iI_n]; simp
  · simp only [u2, env, iI_n]; simp
  · simp only [u2, env, iI_n]; simp
  · simp only [u2, env, iI_n]; simp [cs11 hS]
  · simp only [u2, env, iI_n]; simp [cs12 hS]
  · simp only [u2, env, iI_n, sDp_on ho]; simp
  · simp only [u2, env, iI_n]; simp
theorem c_tellLast (hg : Geo g) {W : Nat → Int32} (hL : LJ LF I W) (hE : EB E) (hW : ∀ w, w < 8 → I 34 w = iI (E w)) {head most w : Nat} (h1 : 1 ≤ head) (h2 : head ≤ 3) (hm : most ≤ 100) (hQ : ∀ J', Xr 35 J J' → Q (some (.int (nI (tl LF head E most w)))) (g, I, J')) : a_call aTab aMX (d + 3) m_Asker_tellLast [.ref 33, .int (nI head), .int (nI most), .int (nI w)] (g, I, J) Q := by
  obtain ⟨h0, n, hd, sv, tv, hn, e1, e2, h3, h4⟩ := hL
  rw [e_Asker_tellLast, b_Asker_tellLast_0 hg, e1]
  unfold tl at hQ
  rw [h4] at hQ
  clear h4 e2
  have em : ∀ c : Nat, nI c + (-1 : Int32) = nI c - nI 1 := fun c => by rw [Int32.sub_eq_add_neg]; rfl
  have key : ∀ c, c ≤ n → ∀ J, (∀ J', Xr 35 J J' → Q (some (.int (nI (clp most w (tF hd sv tv head E c))))) (g, I, J')) → ∀ v5 v6 v7 v8, a_wp aTab aMX (d + 2) m_Asker_tellLast 11 [.ref 33, .int (nI head), .int (nI most), .int (nI w), .int (nI c - nI 1), v5, v6, v7, v8, aU] [] (g, I, J) Q := by
    intro c
    induction c with
    | zero =>
      intro _ J hQ v5 v6 v7 v8
      rw [b_Asker_tellLast_11]
      rw [if_pos (show nI 0 - nI 1 < nI 0 by decide), b_Asker_tellLast_136]
      exact hQ J Xr_rf
    | succ c ih =>
      intro hc J hQ v5 v6 v7 v8
      obtain ⟨hh, k1, -, s, t, e, s', t', e', m, m2, ⟨k2, k3, k4⟩, -, ⟨b1, b2, b3, b4, b5, b6⟩, dS, dT⟩ := h3 c (by omega)
      have ihc := ih (by omega)
      rw [b_Asker_tellLast_11, nsub (by omega), Nat.add_sub_cancel]
      unfold tF at hQ
      by_cases q : hd c = head
      rotate_left
      · rw [if_neg (fun z => q z.1)] at hQ
        simp (disch := omega) only [b_Asker_tellLast_16 hg, b_Asker_tellLast_130, ↓reduceIte, nadd, nmul, nsub, nlt, neq, ncl, nvi, ndiv, nrem, nand, nor, nxor, nshl, nshr, exI, exJ, exV, eq_self, true_and, and_true, true_or, or_true, if_true, if_false, not_true, not_false_eq_true, false_and, and_false, decide_true, decide_false, bi_T, bi_F, bi_0, bi_1, bi_z, bft, n10, n01, Nat.reduceEqDiff, Nat.reduceLT, Nat.reduceAdd, Nat.reduceMul, reduceCtorEq, k1, k2, k3, k4, q, Nat.not_lt_zero, em]
        exact ihc J hQ _ _ _ _
      have vT : ∀ x, tv c E = some x → -1000000000 ≤ x ∧ x ≤ 1000000000 := by
        intro x hx
        rcases dT with ⟨_, _, z⟩ | z
        · rw [z] at hx; cases hx; omega
        · exact ((Der_VB z).1 E hE x hx).1
      -- behind the test
      have beh : tv c E = some 1 → ∀ J2, Xr 35 J J2 → ∀ v7 v8, a_wp aTab aMX (d + 2) m_Asker_tellLast 89 [.ref 33, .int (nI head), .int (nI most), .int (nI w), .int (nI c), .int (nI s), .int (nI t), v7, v8, aU] [] (g, I, J2) Q := by
        intro hT J2 f1 v7 v8
        rw [if_pos ⟨q, hT⟩] at hQ
        have fin : ∀ (x : Int) (J3 : Nat → Nat → Int64), -1000000000 ≤ x → x ≤ 1000000000 → Q (some (.int (nI (clp most w (some x))))) (g, I, J3) → ∀ v5 v6 v7 v8, a_wp aTab aMX (d + 2) m_Asker_tellLast 106 [.ref 33, .int (nI head), .int (nI most), .int (nI w), .int (nI c), v5, v6, v7, v8, aU] [.long (lI x)] (g, I, J3) Q := by
          intro x J3 x1 x2 hq v5 v6 v7 v8
          rw [b_Asker_tellLast_106, show lN 4611686018427387904 = lI 4611686018427387904 from (lI_n _).symm, if_neg (by rw [lI_eq (by omega) (by omega) (by decide) (by decide)]; omega), b_Asker_tellLast_117]
          have e3 : (if (if lI x < (nI most).toInt64 then lI x else (nI most).toInt64) < lN 0 then lN 0 else (if lI x < (nI most).toInt64 then lI x else (nI most).toInt64)) = lN ((min (most : Int) x).toNat) := by
            rw [nI_l (by omega), ← lI_n, ← lI_n, ← lI_n]
            by_cases p : x < (most : Int)
            · have p3 : lI x < lI (most : Int) := by rw [lI_lt (by omega) (by omega) (by omega) (by omega)]; exact p
              rw [if_pos p3]
              by_cases p2 : x < ((0 : Nat) : Int)
              · rw [if_pos (by rw [lI_lt (by omega) (by omega) (by decide) (by decide)]; exact p2), show ((0 : Nat) : Int) = ((min (most : Int) x).toNat : Int) by omega]
              · rw [if_neg (by rw [lI_lt (by omega) (by omega) (by decide) (by decide)]; exact p2), show x = ((min (most : Int) x).toNat : Int) by omega]
                rw [show (min (most : Int) ((min (most : Int) x).toNat : Int)).toNat = (min (most : Int) x).toNat by omega]
            · have p3 : ¬ lI x < lI (most : Int) := by rw [lI_lt (by omega) (by omega) (by omega) (by omega)]; exact p
              rw [if_neg p3, if_neg (by rw [lI_lt (by omega) (by omega) (by decide) (by decide)]; omega)]
              rw [show (min (most : Int) x).toNat = most by omega]
          rw [e3, i32L]
          exact hq
        rw [b_Asker_tellLast_89]
        by_cases q3 : head = 3
        · rw [if_pos q3] at hQ
          simp (disch := omega) only [b_Asker_tellLast_94, neq, q3, if_true]
          rw [← lI_n, ← q3]
          exact fin 1 J2 (by omega) (by omega) (hQ J2 f1) _ _ _ _
        · rw [if_neg q3] at hQ
          simp (disch := omega) only [b_Asker_tellLast_98 hg, neq, q3, if_false]
          refine c_valueOf hg hE hW (dS (by rw [q]; exact q3)) (by omega) b5 ?_
          intro J3 f2
          refine ⟨_, rfl, ?_⟩
          cases hs : sv c E with
          | none =>
            rw [hs] at hQ
            rw [b_Asker_tellLast_106, show oL none = lN 4611686018427387904 from rfl, if_pos rfl, b_Asker_tellLast_130, em]
            exact ihc J3 (fun J' z => hQ J' (Xr_tr (Xr_tr f1 f2) z)) _ _ _ _
          | some x =>
            rw [hs] at hQ
            have bx := ((Der_VB (dS (by rw [q]; exact q3))).1 E hE x hs).1
            exact fin x J3 bx.1 bx.2 (hQ J3 (Xr_tr f1 f2)) _ _ _ _
      simp (disch := omega) only [b_Asker_tellLast_16 hg, ↓reduceIte, nadd, nmul, nsub, nlt, neq, ncl, nvi, ndiv, nrem, nand, nor, nxor, nshl, nshr, exI, exJ, exV, eq_self, true_and, and_true, true_or, or_true, if_true, if_false, not_true, not_false_eq_true, false_and, and_false, decide_true, decide_false, bi_T, bi_F, bi_0, bi_1, bi_z, bft, n10, n01, Nat.reduceEqDiff, Nat.reduceLT, Nat.reduceAdd, Nat.reduceMul, reduceCtorEq, k1, k2, k3, k4, q, Nat.not_lt_zero]
      rw [b_Asker_tellLast_66]
      rcases dT with ⟨z1, z2, z3⟩ | z
      · simp (disch := omega) only [nlt, z1, Nat.lt_irrefl, if_false]
        rw [← z1]
        exact beh (z3 E) J Xr_rf _ _
      · have hlt := (Der_VB z).2.2.1
        simp (disch := omega) only [nlt, hlt, if_true]
        rw [b_Asker_tellLast_73 hg]
        refine c_valueOf hg hE hW z (by omega) b6 ?_
        intro J2 f1
        refine ⟨_, rfl, ?_⟩
        rw [b_Asker_tellLast_81]
        by_cases hT : tv c E = some 1
        · rw [if_pos (by rw [oL_1 vT]; exact hT)]
          exact beh hT J2 f1 _ _
        · rw [if_neg (fun z => hT z.2)] at hQ
          rw [if_neg (by rw [oL_1 vT]; exact hT), b_Asker_tellLast_86, b_Asker_tellLast_130, em]
          exact ihc J2 (fun J' z => hQ J' (Xr_tr f1 z)) _ _ _ _
  exact key n (Nat.le_refl _) J hQ _ _ _ _
/-! the reference -/
theorem c_isSo (hg : Geo g) {sc : Nat → Nat → Int32} {c h : Nat} {sv tv : aV} (hc : c < 24) (hl : LWo sc (I 91) c h sv tv) (hE : EB E) (hW : ∀ w, w < 8 → J 102 (w + 1) = lI (E w)) (hQ : ∀ I' J', Xi I I' → Xm J J' → (tv E = some 1 → h ≠ 3 → ∀ x, sv E = some x → J' 89 33 = lI x) → Q (some (.int (bi (decide (tv E = some 1 ∧ (h = 3 ∨ sv E ≠ none)))))) (g, I', J')) : a_call aTab aMX (d + 3) m_Mo_isSo [.ref 89, .int (nI (372 + 8 * c))] (g, I, J) Q := by
  obtain ⟨hh, -, k1, s, t, e, s', t', e', m, m2, -, ⟨k2, k3, k4, k5⟩, ⟨b1, b2, b3, b4, b5, b6⟩, dS, dT⟩ := hl
  have beh : tv E = some 1 → ∀ I2 J2, Xi I I2 → Xm J J2 → a_wp aTab aMX (d + 2) m_Mo_isSo 59 [.ref 89, .int (nI (372 + 8 * c))] [] (g, I2, J2) Q := by
    intro hT I2 J2 f1 f2
    have e91 := Xi_91 f1
    have e102 : J2 102 = J 102 := Xm_r f2 (by decide) (by decide)
    by_cases q3 : h = 3
    · have e3 : nI (h - 1) = nI 2 := by rw [q3]
      simp (disch := omega) only [b_Mo_isSo_59 hg, b_Mo_isSo_110, ↓reduceIte, nadd, nmul, nsub, nlt, neq, ncl, nvi, ndiv, nrem, nand, nor, nxor, nshl, nshr, exI, exJ, exV, eq_self, true_and, and_true, true_or, or_true, if_true, if_false, not_true, not_false_eq_true, false_and, and_false, decide_true, decide_false, bi_T, bi_F, bi_0, bi_1, bi_z, bft, n10, n01, Nat.reduceEqDiff, Nat.reduceLT, Nat.reduceAdd, Nat.reduceMul, reduceCtorEq, e91, k1, e3]
      have := hQ I2 J2 f1 f2 (fun _ z => absurd q3 z)
      simp only [hT, q3, exI, exJ, exV, eq_self, true_and, and_true, true_or, or_true, if_true, if_false, not_true, not_false_eq_true, false_and, and_false, decide_true, decide_false, bi_T, bi_F, bi_0, bi_1, bi_z, bft, n10, n01, Nat.reduceEqDiff, Nat.reduceLT, Nat.reduceAdd, Nat.reduceMul, reduceCtorEq] at this
      exact this
    · have e3 : ¬ h - 1 = 2 := by omega
      have e34 : J2 102 = J 102 := e102
      simp (disch := omega) only [b_Mo_isSo_59 hg, b_Mo_isSo_69 hg, ↓reduceIte, nadd, nmul, nsub, nlt, neq, ncl, nvi, ndiv, nrem, nand, nor, nxor, nshl, nshr, exI, exJ, exV, eq_self, true_and, and_true, true_or, or_true, if_true, if_false, not_true, not_false_eq_true, false_and, and_false, decide_true, decide_false, bi_T, bi_F, bi_0, bi_1, bi_z, bft, n10, n01, Nat.reduceEqDiff, Nat.reduceLT, Nat.reduceAdd, Nat.reduceMul, reduceCtorEq, e91, k1, k2, k3, e3]
      have dS := dS q3
      refine c_reckonAll hg hE (by rw [e102]; exact hW) (by rw [e91]; exact dS) (by omega) b5 ?_ ?_
      · intro hs I3 J3 g1 g2 g3
        refine ⟨rfl, ?_⟩
        have := hQ I3 (u2 J3 89 33 (J3 89 32)) (Xi_tr f1 g1) (Xm_u (Or.inr rfl) (Xm_tr f2 g2)) (fun _ _ x hx => by rw [hs] at hx; cases hx)
        simp only [hT, q3, hs, ne_eq, exI, exJ, exV, eq_self, true_and, and_true, true_or, or_true, if_true, if_false, not_true, not_false_eq_true, false_and, and_false, decide_true, decide_false, bi_T, bi_F, bi_0, bi_1, bi_z, bft, n10, n01, Nat.reduceEqDiff, Nat.reduceLT, Nat.reduceAdd, Nat.reduceMul, reduceCtorEq, or_false] at this
        simp (disch := omega) only [b_Mo_isSo_89 hg, b_Mo_isSo_108, b_Mo_isSo_109, ↓reduceIte, nadd, nmul, nsub, nlt, neq, ncl, nvi, ndiv, nrem, nand, nor, nxor, nshl, nshr, exI, exJ, exV, eq_self, true_and, and_true, true_or, or_true, if_true, if_false, not_true, not_false_eq_true, false_and, and_false, decide_true, decide_false, bi_T, bi_F, bi_0, bi_1, bi_z, bft, n10, n01, Nat.reduceEqDiff, Nat.reduceLT, Nat.reduceAdd, Nat.reduceMul, reduceCtorEq, g3, Nat.one_ne_zero]
        exact this
      · intro x hs I3 J3 g1 g2 g3 g4
        refine ⟨rfl, ?_⟩
        have := hQ I3 (u2 J3 89 33 (J3 89 32)) (Xi_tr f1 g1) (Xm_u (Or.inr rfl) (Xm_tr f2 g2)) (fun _ _ y hy => by rw [hs] at hy; cases hy; rw [u2_s, g4])
        simp only [hT, q3, hs, ne_eq, exI, exJ, exV, eq_self, true_and, and_true, true_or, or_true, if_true, if_false, not_true, not_false_eq_true, false_and, and_false, decide_true, decide_false, bi_T, bi_F, bi_0, bi_1, bi_z, bft, n10, n01, Nat.reduceEqDiff, Nat.reduceLT, Nat.reduceAdd, Nat.reduceMul, reduceCtorEq] at this
        simp (disch := omega) only [b_Mo_isSo_89 hg, b_Mo_isSo_104, b_Mo_isSo_109, ↓reduceIte, nadd, nmul, nsub, nlt, neq, ncl, nvi, ndiv, nrem, nand, nor, nxor, nshl, nshr, exI, exJ, exV, eq_self, true_and, and_true, true_or, or_true, if_true, if_false, not_true, not_false_eq_true, false_and, and_false, decide_true, decide_false, bi_T, bi_F, bi_0, bi_1, bi_z, bft, n10, n01, Nat.reduceEqDiff, Nat.reduceLT, Nat.reduceAdd, Nat.reduceMul, reduceCtorEq, g3]
        exact this
  rw [e_Mo_isSo]
  rcases dT with ⟨z1, z2, z3⟩ | z
  · simp (disch := omega) only [b_Mo_isSo_0 hg, ↓reduceIte, nadd, nmul, nsub, nlt, neq, ncl, nvi, ndiv, nrem, nand, nor, nxor, nshl, nshr, exI, exJ, exV, eq_self, true_and, and_true, true_or, or_true, if_true, if_false, not_true, not_false_eq_true, false_and, and_false, decide_true, decide_false, bi_T, bi_F, bi_0, bi_1, bi_z, bft, n10, n01, Nat.reduceEqDiff, Nat.reduceLT, Nat.reduceAdd, Nat.reduceMul, reduceCtorEq, k4, k5, z2, Nat.lt_irrefl]
    exact beh (z3 E) I J Xi_rf Xm_rf
  · have hlt := (Der_VB z).2.1
    have hv := (Der_VB z).1
    simp (disch := omega) only [b_Mo_isSo_0 hg, b_Mo_isSo_20 hg, ↓reduceIte, nadd, nmul, nsub, nlt, neq, ncl, nvi, ndiv, nrem, nand, nor, nxor, nshl, nshr, exI, exJ, exV, eq_self, true_and, and_true, true_or, or_true, if_true, if_false, not_true, not_false_eq_true, false_and, and_false, decide_true, decide_false, bi_T, bi_F, bi_0, bi_1, bi_z, bft, n10, n01, Nat.reduceEqDiff, Nat.reduceLT, Nat.reduceAdd, Nat.reduceMul, reduceCtorEq, k4, k5, hlt]
    refine c_reckonAll hg hE hW z (by omega) b6 ?_ ?_
    · intro hs I3 J3 g1 g2 g3
      refine ⟨rfl, ?_⟩
      have := hQ I3 J3 g1 g2 (fun z => by rw [hs] at z; cases z)
      simp only [hs, exI, exJ, exV, eq_self, true_and, and_true, true_or, or_true, if_true, if_false, not_true, not_false_eq_true, false_and, and_false, decide_true, decide_false, bi_T, bi_F, bi_0, bi_1, bi_z, bft, n10, n01, Nat.reduceEqDiff, Nat.reduceLT, Nat.reduceAdd, Nat.reduceMul, reduceCtorEq] at this
      simp (disch := omega) only [b_Mo_isSo_41 hg, b_Mo_isSo_57, ↓reduceIte, nadd, nmul, nsub, nlt, neq, ncl, nvi, ndiv, nrem, nand, nor, nxor, nshl, nshr, exI, exJ, exV, eq_self, true_and, and_true, true_or, or_true, if_true, if_false, not_true, not_false_eq_true, false_and, and_false, decide_true, decide_false, bi_T, bi_F, bi_0, bi_1, bi_z, bft, n10, n01, Nat.reduceEqDiff, Nat.reduceLT, Nat.reduceAdd, Nat.reduceMul, reduceCtorEq, g3, Nat.one_ne_zero]
      exact this
    · intro x hs I3 J3 g1 g2 g3 g4
      refine ⟨rfl, ?_⟩
      rcases (hv E hE x hs).2 rfl with rfl | rfl
      · have := hQ I3 J3 g1 g2 (fun z => by rw [hs] at z; cases z)
        have ne : ¬ (some (0 : Int) = some 1) := by decide
        simp only [hs, ne, exI, exJ, exV, eq_self, true_and, and_true, true_or, or_true, if_true, if_false, not_true, not_false_eq_true, false_and, and_false, decide_true, decide_false, bi_T, bi_F, bi_0, bi_1, bi_z, bft, n10, n01, Nat.reduceEqDiff, Nat.reduceLT, Nat.reduceAdd, Nat.reduceMul, reduceCtorEq] at this
        simp (disch := omega) only [b_Mo_isSo_41 hg, b_Mo_isSo_48 hg, b_Mo_isSo_57, ↓reduceIte, nadd, nmul, nsub, nlt, neq, ncl, nvi, ndiv, nrem, nand, nor, nxor, nshl, nshr, exI, exJ, exV, eq_self, true_and, and_true, true_or, or_true, if_true, if_false, not_true, not_false_eq_true, false_and, and_false, decide_true, decide_false, bi_T, bi_F, bi_0, bi_1, bi_z, bft, n10, n01, Nat.reduceEqDiff, Nat.reduceLT, Nat.reduceAdd, Nat.reduceMul, reduceCtorEq, g3, g4, show (lI 0 = lN 0) = True from eq_true (lI_n 0)]
        exact this
      · simp (disch := omega) only [b_Mo_isSo_41 hg, b_Mo_isSo_48 hg, ↓reduceIte, nadd, nmul, nsub, nlt, neq, ncl, nvi, ndiv, nrem, nand, nor, nxor, nshl, nshr, exI, exJ, exV, eq_self, true_and, and_true, true_or, or_true, if_true, if_false, not_true, not_false_eq_true, false_and, and_false, decide_true, decide_false, bi_T, bi_F, bi_0, bi_1, bi_z, bft, n10, n01, Nat.reduceEqDiff, Nat.reduceLT, Nat.reduceAdd, Nat.reduceMul, reduceCtorEq, g3, g4, show (lI 1 = lN 0) = False from eq_false (by decide)]
        exact beh hs I3 J3 g1 g2
/-- what may change when the reference asks a text -/
def Xj (J J' : Nat → Nat → Int64) : Prop := ∀ a k, a ≠ 102 → a ≠ 103 → ¬ (a = 89 ∧ (k = 32 ∨ k = 33)) → J' a k = J a k
theorem Xj_rf {J : Nat → Nat → Int64} : Xj J J := fun _ _ _ _ _ => rfl
theorem Xj_tr {J J2 J3 : Nat → Nat → Int64} (h : Xj J J2) (h2 : Xj J2 J3) : Xj J J3 := fun a k h3 h4 h5 => (h2 a k h3 h4 h5).trans (h a k h3 h4 h5)
theorem Xj_m {J J2 : Nat → Nat → Int64} (h : Xm J J2) : Xj J J2 := fun a k _ h3 h4 => h a k h3 h4
theorem Xj_u {J J2 : Nat → Nat → Int64} {k : Nat} {z : Int64} (h : Xj J J2) : Xj J (u2 J2 102 k z) := fun a j h3 h4 h5 => by
  rw [u2_a h3]
  exact h a j h3 h4 h5
theorem Xj_r {J J2 : Nat → Nat → Int64} (h : Xj J J2) {a : Nat} (h1 : a ≠ 102) (h2 : a ≠ 103) (h3 : a ≠ 89) : J2 a = J a := funext (fun k => h a k h1 h2 (by omega))
def Xt (I I' : Nat → Nat → Int32) : Prop := ∀ a k, ¬ (a = 89 ∧ (k = 31 ∨ k = 34)) → I' a k = I a k
theorem Xt_rf {I : Nat → Nat → Int32} : Xt I I := fun _ _ _ => rfl
theorem Xt_tr {I I2 I3 : Nat → Nat → Int32} (h : Xt I I2) (h2 : Xt I2 I3) : Xt I I3 := fun a k h3 => (h2 a k h3).trans (h a k h3)
theorem Xt_i {I I2 : Nat → Nat → Int32} (h : Xi I I2) : Xt I I2 := fun a k h3 => h a k (by omega)
theorem Xt_u {I I2 : Nat → Nat → Int32} {z : Int32} (h : Xt I I2) : Xt I (u2 I2 89 34 z) := fun a j h4 => by
  rw [show u2 I2 89 34 z a j = I2 a j from if_neg (fun q => h4 ⟨q.1, Or.inr q.2⟩)]
  exact h a j h4
theorem Xt_r {I I2 : Nat → Nat → Int32} (h : Xt I I2) {a : Nat} (ha : a ≠ 89) : I2 a = I a := funext (fun k => h a k (by omega))
theorem c_tells (hg : Geo g) (hB : SB S) {T : Nat → Int32} (hM : MS S T (I 91)) {sc : Nat → Nat → Int32} (hL : LJ LF sc (I 91)) {f b h head most w : Nat} {o : Int} (ho : sOn S f b = true) (hb : b < 12) (hh : h < 100) (ho1 : -1 ≤ o) (ho2 : o < 100) (h1 : 1 ≤ head) (h2 : head ≤ 3) (hm : most ≤ 100) (hw : w ≤ most) (hQ : ∀ I' J', Xt I I' → Xj J J' → Q (some (.int (nI (tl LF head (env S f b h o) most w)))) (g, I', J')) : a_call aTab aMX (d + 4) m_Mo_tells [.ref 89, .int (nI (head - 1)), .int (nI f), .int (nI b), .int (nI h), .int (iI o), .int (nI w), .int (nI most)] (g, I, J) Q := by
  have hf := (sOn_lt ho).1
  have hf13 := (sOn_lt ho).2
  have h6 := sb7 hB 0
  have hE : EB (env S f b h o) := env_EB hB (by omega) (by omega) hh ho1 ho2
  obtain ⟨-, n, hd, sv, tv, hn, e1, e2, h3, h4⟩ := hL
  have hd5 := mDp_le hB f b
  have x1 := sb11 hB (f * 12 + b)
  have x2 := sb12 hB (f * 12 + b)
  have x3 := sb9 hB f
  rw [e_Mo_tells]
  simp (disch := omega) only [b_Mo_tells_0 hg, b_Mo_tells_46 hg, b_Mo_tells_61 hg, c_placeOf hg, c_deepOf hg hB hM, mp1 hM, mp2 hM, ↓reduceIte, nadd, nmul, nsub, nlt, neq, ncl, nvi, ndiv, nrem, nand, nor, nxor, nshl, nshr, exI, exJ, exV, eq_self, true_and, and_true, true_or, or_true, if_true, if_false, not_true, not_false_eq_true, false_and, and_false, decide_true, decide_false, bi_T, bi_F, bi_0, bi_1, bi_z, bft, n10, n01, Nat.reduceEqDiff, Nat.reduceLT, Nat.reduceAdd, Nat.reduceMul, reduceCtorEq]
  rw [b_Mo_tells_75 hg]
  simp (disch := omega) only [↓reduceIte, nadd, nmul, nsub, nlt, neq, ncl, nvi, ndiv, nrem, nand, nor, nxor, nshl, nshr, exI, exJ, exV, eq_self, true_and, and_true, true_or, or_true, if_true, if_false, not_true, not_false_eq_true, false_and, and_false, decide_true, decide_false, bi_T, bi_F, bi_0, bi_1, bi_z, bft, n10, n01, Nat.reduceEqDiff, Nat.reduceLT, Nat.reduceAdd, Nat.reduceMul, reduceCtorEq, ms10 hM, e2]
  generalize hJ2 : (u2 (u2 (u2 (u2 (u2 (u2 (u2 (u2 J 102 1 _) 102 2 _) 102 3 _) 102 4 _) 102 5 _) 102 6 _) 102 7 _) 102 8 _) = J2
  have hx : Xj J J2 := by rw [← hJ2]; exact Xj_u (Xj_u (Xj_u (Xj_u (Xj_u (Xj_u (Xj_u (Xj_u Xj_rf)))))))
  have hW : ∀ w, w < 8 → J2 102 (w + 1) = lI (env S f b h o w) := by
    rw [← hJ2]
    refine w8 ?_ ?_ ?_ ?_ ?_ ?_ ?_ ?_
    · simp only [u2, env, lI_n]; simp; exact nI_l (by omega)
    · simp only [u2, env, lI_n]; simp; exact nI_l (by omega)
    · simp only [u2, env, lI_n]; simp; exact nI_l (by omega)
    · simp only [u2, env, lI_n]; simp; exact iI_l (by omega) (by omega)
    · simp only [u2, env, lI_n]; simp; exact nI_l (by omega)
    · simp only [u2, env, lI_n]; simp; exact nI_l (by omega)
    · simp only [u2, env, lI_n]; simp; exact nI_l (by omega)
    · simp only [u2, env, lI_n]; simp; exact nI_l (by omega)
  clear hJ2
  rw [show tl LF head (env S f b h o) most w = clp most w (tF hd sv tv head (env S f b h o) n) by unfold tl; rw [h4]] at hQ
  generalize env S f b h o = E at *
  have bdT : ∀ c, c ≤ n → ∀ x, tF hd sv tv head E c = some x → -1000000000 ≤ x ∧ x ≤ 1000000000 := by
    intro c hc
    refine tF_bd hE c (fun c2 hc2 q => ?_)
    obtain ⟨-, -, -, s, t, e, s', t', e', m, m2, -, -, -, dS, -⟩ := h3 c2 (by omega)
    exact (Der_VB (dS q)).1
  have key : ∀ c, c ≤ n → ∀ I3 J3, Xt I I3 → Xj J J3 → I3 89 34 = nI n → J3 102 = J2 102 → ∀ v2 v3 v4 v5 v6 v11, a_wp aTab aMX (d + 3) m_Mo_tells 114 [.ref 89, .int (nI (head - 1)), v2, v3, v4, v5, v6, .int (nI most), .long (lI ((tF hd sv tv head E c).getD w)), aU, .int (nI c), v11] [] (g, I3, J3) Q := by
    refine dn ?_ ?_
    · intro I3 J3 f1 f2 f3 f4 v2 v3 v4 v5 v6 v11
      rw [b_Mo_tells_114 hg, f3]
      simp (disch := omega) only [nlt, Nat.lt_irrefl, if_false]
      have hq := hQ I3 J3 f1 f2
      have bx := bdT n (Nat.le_refl _)
      generalize tF hd sv tv head E n = r at *
      have hr : -1000000000 ≤ r.getD w ∧ r.getD w ≤ 1000000000 := by
        cases r with
        | none => show -1000000000 ≤ (w : Int) ∧ (w : Int) ≤ 1000000000; omega
        | some x => exact bx x rfl
      have hz : clp most w r = (min (most : Int) (r.getD w)).toNat := by
        cases r with
        | none => show w = (min (most : Int) (w : Int)).toNat; omega
        | some x => rfl
      rw [hz] at hq
      generalize r.getD w = x at *
      rw [b_Mo_tells_175, ← lI_n]
      by_cases p : x < ((0 : Nat) : Int)
      · rw [if_pos (by rw [lI_lt (by omega) (by omega) (by decide) (by decide)]; exact p), b_Mo_tells_182, b_Mo_tells_203, show (0 : Nat) = (min (most : Int) x).toNat by omega]
        exact hq
      rw [if_neg (by rw [lI_lt (by omega) (by omega) (by decide) (by decide)]; exact p), b_Mo_tells_186, nI_l (by omega), ← lI_n]
      by_cases p2 : (most : Int) < x
      · rw [if_pos (by rw [lI_lt (by omega) (by omega) (by omega) (by omega)]; exact p2), b_Mo_tells_195, b_Mo_tells_203]
        rw [show (min (most : Int) x).toNat = most by omega] at hq
        exact hq
      · rw [if_neg (by rw [lI_lt (by omega) (by omega) (by omega) (by omega)]; exact p2), b_Mo_tells_200, b_Mo_tells_203]
        rw [show lI x = lN (min (most : Int) x).toNat by rw [← lI_n, show ((min (most : Int) x).toNat : Int) = x by omega], i32L]
        exact hq
    · intro c hc ih I3 J3 f1 f2 f3 f4 v2 v3 v4 v5 v6 v11
      have hl := h3 c hc
      have e91 : I3 91 = I 91 := Xt_r f1 (by decide)
      have k1 := hl.2.2.1
      have hh := hl.1
      rw [b_Mo_tells_114 hg, f3]
      simp (disch := omega) only [b_Mo_tells_123 hg, ↓reduceIte, nadd, nmul, nsub, nlt, neq, ncl, nvi, ndiv, nrem, nand, nor, nxor, nshl, nshr, exI, exJ, exV, eq_self, true_and, and_true, true_or, or_true, if_true, if_false, not_true, not_false_eq_true, false_and, and_false, decide_true, decide_false, bi_T, bi_F, bi_0, bi_1, bi_z, bft, n10, n01, Nat.reduceEqDiff, Nat.reduceLT, Nat.reduceAdd, Nat.reduceMul, reduceCtorEq, hc, e91, k1]
      have eq1 : (hd c - 1 = head - 1) = (hd c = head) := propext ⟨fun _ => by omega, fun _ => by omega⟩
      simp only [eq1]
      by_cases q : hd c = head
      rotate_left
      · have et : tF hd sv tv head E (c + 1) = tF hd sv tv head E c := if_neg (fun z => q z.1)
        rw [et] at ih
        simp (disch := omega) only [b_Mo_tells_169, ↓reduceIte, nadd, nmul, nsub, nlt, neq, ncl, nvi, ndiv, nrem, nand, nor, nxor, nshl, nshr, exI, exJ, exV, eq_self, true_and, and_true, true_or, or_true, if_true, if_false, not_true, not_false_eq_true, false_and, and_false, decide_true, decide_false, bi_T, bi_F, bi_0, bi_1, bi_z, bft, n10, n01, Nat.reduceEqDiff, Nat.reduceLT, Nat.reduceAdd, Nat.reduceMul, reduceCtorEq, q]
        exact ih I3 J3 f1 f2 f3 f4 _ _ _ _ _ _
      simp only [q, if_true]
      rw [b_Mo_tells_145 hg]
      refine c_isSo hg (by omega) (by rw [e91]; exact hl) hE (by rw [f4]; exact hW) ?_
      intro I4 J4 r1 r2 r3
      refine ⟨_, rfl, ?_⟩
      have g1 := Xt_tr f1 (Xt_i r1)
      have g2 := Xj_tr f2 (Xj_m r2)
      have g3 : I4 89 34 = nI n := (r1 89 34 (by omega)).trans f3
      have g4 : J4 102 = J2 102 := (Xm_r r2 (by decide) (by decide)).trans f4
      have ih := fun v2 v3 v4 v5 v6 v11 => ih I4 J4 g1 g2 g3 g4 v2 v3 v4 v5 v6 v11
      by_cases hT : tv c E = some 1
      rotate_left
      · have et : tF hd sv tv head E (c + 1) = tF hd sv tv head E c := if_neg (fun z => hT z.2)
        rw [et] at ih
        simp (disch := omega) only [b_Mo_tells_151, b_Mo_tells_169, ↓reduceIte, nadd, nmul, nsub, nlt, neq, ncl, nvi, ndiv, nrem, nand, nor, nxor, nshl, nshr, exI, exJ, exV, eq_self, true_and, and_true, true_or, or_true, if_true, if_false, not_true, not_false_eq_true, false_and, and_false, decide_true, decide_false, bi_T, bi_F, bi_0, bi_1, bi_z, bft, n10, n01, Nat.reduceEqDiff, Nat.reduceLT, Nat.reduceAdd, Nat.reduceMul, reduceCtorEq, hT]
        exact ih _ _ _ _ _ _
      by_cases q3 : head = 3
      · have et : tF hd sv tv head E (c + 1) = some 1 := by
          show (if hd c = head ∧ tv c E = some 1 then (if head = 3 then some 1 else _) else _) = _
          rw [if_pos ⟨q, hT⟩, if_pos q3]
        rw [et] at ih
        have q4 : hd c = 3 := q.trans q3
        have q5 : head - 1 = 2 := by omega
        simp (disch := omega) only [b_Mo_tells_151, b_Mo_tells_154, b_Mo_tells_159, b_Mo_tells_167, b_Mo_tells_169, ↓reduceIte, nadd, nmul, nsub, nlt, neq, ncl, nvi, ndiv, nrem, nand, nor, nxor, nshl, nshr, exI, exJ, exV, eq_self, true_and, and_true, true_or, or_true, if_true, if_false, not_true, not_false_eq_true, false_and, and_false, decide_true, decide_false, bi_T, bi_F, bi_0, bi_1, bi_z, bft, n10, n01, Nat.reduceEqDiff, Nat.reduceLT, Nat.reduceAdd, Nat.reduceMul, reduceCtorEq, hT, q3, q4, q5]
        rw [show nI 2 = nI (head - 1) by rw [q5], ← lI_n]
        exact ih _ _ _ _ _ _
      have q4 : ¬ hd c = 3 := by rw [q]; exact q3
      have q5 : ¬ head - 1 = 2 := by omega
      cases hs : sv c E with
      | none =>
        have et : tF hd sv tv head E (c + 1) = tF hd sv tv head E c := by
          show (if hd c = head ∧ tv c E = some 1 then (if head = 3 then some 1 else match sv c E with | some x => some x | none => tF hd sv tv head E c) else _) = _
          rw [if_pos ⟨q, hT⟩, if_neg q3, hs]
        rw [et] at ih
        simp (disch := omega) only [b_Mo_tells_151, b_Mo_tells_169, ↓reduceIte, nadd, nmul, nsub, nlt, neq, ncl, nvi, ndiv, nrem, nand, nor, nxor, nshl, nshr, exI, exJ, exV, eq_self, true_and, and_true, true_or, or_true, if_true, if_false, not_true, not_false_eq_true, false_and, and_false, decide_true, decide_false, bi_T, bi_F, bi_0, bi_1, bi_z, bft, n10, n01, Nat.reduceEqDiff, Nat.reduceLT, Nat.reduceAdd, Nat.reduceMul, reduceCtorEq, hT, hs, q4, ne_eq, or_false]
        exact ih _ _ _ _ _ _
      | some x =>
        have et : tF hd sv tv head E (c + 1) = some x := by
          show (if hd c = head ∧ tv c E = some 1 then (if head = 3 then some 1 else match sv c E with | some x => some x | none => tF hd sv tv head E c) else _) = _
          rw [if_pos ⟨q, hT⟩, if_neg q3, hs]
        rw [et] at ih
        simp (disch := omega) only [b_Mo_tells_151, b_Mo_tells_154, b_Mo_tells_163 hg, b_Mo_tells_167, b_Mo_tells_169, ↓reduceIte, nadd, nmul, nsub, nlt, neq, ncl, nvi, ndiv, nrem, nand, nor, nxor, nshl, nshr, exI, exJ, exV, eq_self, true_and, and_true, true_or, or_true, if_true, if_false, not_true, not_false_eq_true, false_and, and_false, decide_true, decide_false, bi_T, bi_F, bi_0, bi_1, bi_z, bft, n10, n01, Nat.reduceEqDiff, Nat.reduceLT, Nat.reduceAdd, Nat.reduceMul, reduceCtorEq, hT, hs, q4, q5, ne_eq, r3 hT q4 x hs]
        exact ih _ _ _ _ _ _
  have := key 0 (by omega) (u2 I 89 34 (nI n)) J2 (Xt_u Xt_rf) hx u2_s rfl
  rw [show (tF hd sv tv head E 0).getD (w : Int) = (w : Int) from rfl, lI_n] at this
  rw [nI_l (by omega)]
  exact this _ _ _ _ _ _
end TE
