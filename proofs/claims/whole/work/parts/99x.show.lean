/-! ===== show ===== -/
theorem lNadd (a b : Nat) : lN a + lN b = lN (a + b) := (Int64.ofNat_add a b).symm
theorem lNsub {a b : Nat} (h : b ≤ a) : lN a - lN b = lN (a - b) := (Int64.ofNat_sub a b h).symm
theorem lNdiv {a e : Nat} (ha : a < 4611686018427387904) (he : e < 4611686018427387904) : lN a / lN e = lN (a / e) := by
  rw [← lI_n, ← lI_n, ← lI_n]
  apply lI_of
  have e1 := lI_t (z := (a : Int)) (by omega) (by omega)
  have e2 := lI_t (z := (e : Int)) (by omega) (by omega)
  have e3 : ((a : Int).tdiv (e : Int)) = ((a / e : Nat) : Int) := rfl
  have e4 := Nat.div_le_self a e
  rw [Int64.toInt_div, e1, e2, e3]
  clear e3
  generalize a / e = q at e4 ⊢
  exact fb_bmodL (by omega) (by omega)
def nx (z : Nat) : Nat := (z * 1103 + 12345) % 1000003
theorem nx_le (z : Nat) : nx z ≤ 1000002 := by unfold nx; omega
theorem l_nx {z : Nat} (hz : z ≤ 1000002) : (lN z * lN 1103 + lN 12345) - (lN z * lN 1103 + lN 12345) / lN 1000003 * lN 1000003 = lN (nx z) := by
  rw [lNm, lNadd, lNdiv (by omega) (by decide), lNm, lNsub (Nat.div_mul_le_self _ _)]
  unfold nx
  have := Nat.div_add_mod (z * 1103 + 12345) 1000003
  rw [show z * 1103 + 12345 - (z * 1103 + 12345) / 1000003 * 1000003 = (z * 1103 + 12345) % 1000003 by omega]
theorem l_100 {z : Nat} (hz : z ≤ 1000002) : lN z - lN z / lN 100 * lN 100 = lN (z % 100) := by
  rw [lNdiv (by omega) (by decide), lNm, lNsub (Nat.div_mul_le_self _ _), show z - z / 100 * 100 = z % 100 by omega]
def slp (S : Nat → Nat → Nat) (LF : aLF) (b f z : Nat) : Bool := decide (nx z % 100 < tl LF 2 (env S f b (whoS S LF f b) (-1)) 100 0)
def shF (S : Nat → Nat → Nat) (LF : aLF) (b z c : Nat) : Nat → Nat × Nat × Nat
  | 0 => (z, c, 0)
  | f + 1 => if sOn S f b then (nx (shF S LF b z c f).1, if slp S LF b f (shF S LF b z c f).1 then ((shF S LF b z c f).2.1 + 1, (shF S LF b z c f).2.2 ||| 1 <<< f) else (shF S LF b z c f).2) else shF S LF b z c f
def shB (S : Nat → Nat → Nat) (LF : aLF) (s : Nat) : Nat → Nat × Nat
  | 0 => (s, 0)
  | b + 1 => ((shF S LF b (shB S LF s b).1 (shB S LF s b).2 6).1, (shF S LF b (shB S LF s b).1 (shB S LF s b).2 6).2.1)
def shX (S : Nat → Nat → Nat) (LF : aLF) (s b : Nat) : Nat := (shF S LF b (shB S LF s b).1 (shB S LF s b).2 6).2.2
section SHP
variable {S : Nat → Nat → Nat} {LF : aLF} {b z c s : Nat}
theorem shF_off {f : Nat} (h : sOn S f b = false) : shF S LF b z c (f + 1) = shF S LF b z c f := by
  show (if sOn S f b then _ else _) = _
  rw [h]; rfl
theorem shF_no {f : Nat} (h : sOn S f b = true) (h2 : slp S LF b f (shF S LF b z c f).1 = false) : shF S LF b z c (f + 1) = (nx (shF S LF b z c f).1, (shF S LF b z c f).2) := by
  show (if sOn S f b then (nx (shF S LF b z c f).1, if slp S LF b f (shF S LF b z c f).1 then _ else _) else _) = _
  rw [h, h2]; rfl
theorem shF_yes {f : Nat} (h : sOn S f b = true) (h2 : slp S LF b f (shF S LF b z c f).1 = true) : shF S LF b z c (f + 1) = (nx (shF S LF b z c f).1, (shF S LF b z c f).2.1 + 1, (shF S LF b z c f).2.2 ||| 1 <<< f) := by
  show (if sOn S f b then (nx (shF S LF b z c f).1, if slp S LF b f (shF S LF b z c f).1 then _ else _) else _) = _
  rw [h, h2]; rfl
theorem shF_b (hz : z ≤ 1000002) : ∀ f, (shF S LF b z c f).1 ≤ 1000002 ∧ (shF S LF b z c f).2.1 ≤ c + f
  | 0 => ⟨hz, Nat.le_refl _⟩
  | f + 1 => by
    have ih := shF_b hz f
    cases h : sOn S f b with
    | false => rw [shF_off h]; omega
    | true =>
      cases h2 : slp S LF b f (shF S LF b z c f).1 with
      | false => rw [shF_no h h2]; exact ⟨nx_le _, by have := ih.2; show (shF S LF b z c f).2.1 ≤ _; omega⟩
      | true => rw [shF_yes h h2]; exact ⟨nx_le _, by have := ih.2; show (shF S LF b z c f).2.1 + 1 ≤ _; omega⟩
theorem shF_end : ∀ k, shF S LF b z c (S 7 0 + k) = shF S LF b z c (S 7 0)
  | 0 => rfl
  | k + 1 => by
    have h : sOn S (S 7 0 + k) b = false := decide_eq_false (fun z => by omega)
    rw [show S 7 0 + (k + 1) = S 7 0 + k + 1 by omega, shF_off h, shF_end k]
theorem shB_b (hs : s ≤ 1000002) : ∀ b, (shB S LF s b).1 ≤ 1000002 ∧ (shB S LF s b).2 ≤ 6 * b
  | 0 => ⟨hs, Nat.le_refl _⟩
  | b + 1 => by
    have ih := shB_b hs b
    have := shF_b (S := S) (LF := LF) (b := b) (c := (shB S LF s b).2) ih.1 6
    exact ⟨this.1, by have := this.2; show (shF S LF b (shB S LF s b).1 (shB S LF s b).2 6).2.1 ≤ _; omega⟩
end SHP
section SHC
variable {N : Nat} {X : Nat → Int32} {ow : Nat → Nat} {S : Nat → Nat → Nat} {LF : aLF} {g : aG} {I : Nat → Nat → Int32} {J : Nat → Nat → Int64} {Q : aQ} {d : Nat} {W : Nat → Int32}
def FsC (I I' : Nat → Nat → Int32) (J J' : Nat → Nat → Int64) : Prop := (∀ a j, a ≠ 34 → a ≠ 87 → I' a j = I a j) ∧ (∀ a, a ≠ 35 → J' a = J a)
theorem FsC_r {I' : Nat → Nat → Int32} {J' : Nat → Nat → Int64} (h : FsC I I' J J') {a : Nat} (h1 : a ≠ 34) (h2 : a ≠ 87) : I' a = I a := funext (fun j => h.1 a j h1 h2)
theorem w_shC (hg : Geo g) (hS : CS S I) (hL : LJ LF I W) (hl : lcS S LF < 1000000) (hP : PR S LF I) {b : Nat} (hb : b < 12) {z c : Nat} (hz : z ≤ 1000002) (K : Nat → Int32) (hQ : ∀ v1 v6 I' J', FsC I I' J J' → (∀ b', b' ≠ b → I' 87 b' = K b') → I' 87 b = nI (shF S LF b z c 6).2.2 → a_wp aTab aMX (d + 3) m_Cp_show 166 [.ref 6, v1, .long (lN (shF S LF b z c 6).1), aU, .int (nI (shF S LF b z c 6).2.1), .int (nI b), v6] [] (g, I', J') Q) : ∀ v1 I' J', FsC I I' J J' → (∀ b', b' ≠ b → I' 87 b' = K b') → I' 87 b = nI 0 → a_wp aTab aMX (d + 3) m_Cp_show 61 [.ref 6, v1, .long (lN z), aU, .int (nI c), .int (nI b), .int (nI 0)] [] (g, I', J') Q := by
  refine dn (P := fun f => ∀ v1 I' J', FsC I I' J J' → (∀ b', b' ≠ b → I' 87 b' = K b') → I' 87 b = nI (shF S LF b z c f).2.2 → a_wp aTab aMX (d + 3) m_Cp_show 61 [.ref 6, v1, .long (lN (shF S LF b z c f).1), aU, .int (nI (shF S LF b z c f).2.1), .int (nI b), .int (nI f)] [] (g, I', J') Q) (n := 6) ?_ ?_ 0 (by omega)
  · intro v1 I' J' f1 f2 f3
    rw [b_Cp_show_61]
    simp (disch := omega) only [↓reduceIte, nadd, nmul, nsub, nlt, neq, ncl, nvi, ndiv, nrem, exI, exJ, exV, eq_self, true_and, and_true, true_or, or_true, if_true, if_false, not_true, not_false_eq_true, false_and, and_false, decide_true, decide_false, bi_T, bi_F, bi_0, bi_1, bi_z, bft, n10, n01, Nat.reduceEqDiff, Nat.reduceLT, Nat.reduceAdd, Nat.reduceMul, reduceCtorEq, Nat.lt_irrefl]
    exact hQ _ _ I' J' f1 f2 f3
  · intro f hf ih v1 I' J' f1 f2 f3
    have hS' : CS S I' := ⟨fun a j y1 y2 => by rw [f1.1 a j (by omega) (by omega)]; exact hS.1 a j y1 y2, hS.2⟩
    have hL' : LJ LF I' W := LJ_cong (fun a y1 y2 => FsC_r f1 (by omega) (by omega)) (fun _ _ => rfl) hL
    have hP' : PR S LF I' := by
      unfold PR at hP ⊢
      rw [FsC_r f1 (by decide) (by decide), FsC_r f1 (by decide) (by decide)]; exact hP
    have hb1 := (shF_b (S := S) (LF := LF) (b := b) (c := c) hz f).1
    rw [b_Cp_show_61]
    cases ho : sOn S f b with
    | false =>
      rw [shF_off ho] at ih
      simp (disch := omega) only [↓reduceIte, nadd, nmul, nsub, nlt, neq, ncl, nvi, ndiv, nrem, exI, exJ, exV, eq_self, true_and, and_true, true_or, or_true, if_true, if_false, not_true, not_false_eq_true, false_and, and_false, decide_true, decide_false, bi_T, bi_F, bi_0, bi_1, bi_z, bft, n10, n01, Nat.reduceEqDiff, Nat.reduceLT, Nat.reduceAdd, Nat.reduceMul, reduceCtorEq, hf, b_Cp_show_68 hg, b_Cp_show_79, b_Cp_show_82, b_Cp_show_160, c_isOnN hg hS', ho]
      exact ih _ I' J' f1 f2 f3
    | true =>
      have e1 : (shF S LF b z c (f + 1)).1 = nx (shF S LF b z c f).1 := by
        cases h2 : slp S LF b f (shF S LF b z c f).1 with
        | false => rw [shF_no ho h2]
        | true => rw [shF_yes ho h2]
      have w4 := who_4 (S := S) (LF := LF) (f := f) (b := b)
      simp (disch := omega) only [↓reduceIte, nadd, nmul, nsub, nlt, neq, ncl, nvi, ndiv, nrem, exI, exJ, exV, eq_self, true_and, and_true, true_or, or_true, if_true, if_false, not_true, not_false_eq_true, false_and, and_false, decide_true, decide_false, bi_T, bi_F, bi_0, bi_1, bi_z, bft, n10, n01, Nat.reduceEqDiff, Nat.reduceLT, Nat.reduceAdd, Nat.reduceMul, reduceCtorEq, hf, b_Cp_show_68 hg, b_Cp_show_79, b_Cp_show_85 hg, c_isOnN hg hS', ho, c_holderAt hg hS' hl hP', l_nx hb1]
      rw [b_Cp_show_118 hg, show (-1 : Int32) = iI (-1) by decide]
      refine c_turnTo hg hS' ho hb (fun I2 g1 g2 => ?_)
      simp only [exV, true_and]
      rw [b_Cp_show_122 hg]
      have g1' : FsC I I2 J J' := ⟨fun a j y1 y2 => by rw [g1 a y1]; exact f1.1 a j y1 y2, f1.2⟩
      refine c_tellLast hg (LJ_cong (fun a y1 y2 => FsC_r g1' (by omega) (by omega)) (fun _ _ => rfl) hL) (env_EB hS.2 (by omega) (by omega) (by omega) (by omega) (by omega)) g2 (by decide) (by decide) (by decide) (fun J2 g3 => ?_)
      have tb := tl_le (LF := LF) (head := 2) (E := env S f b (whoS S LF f b) (-1)) (show 0 ≤ 100 by decide)
      have k2 : FsC I I2 J J2 := ⟨g1'.1, fun a ha => by rw [g3 a ha]; exact f1.2 a ha⟩
      have k3 : ∀ b', b' ≠ b → I2 87 b' = K b' := fun b' hb' => by rw [g1 87 (by decide)]; exact f2 b' hb'
      have k4 : I2 87 b = nI (shF S LF b z c f).2.2 := by rw [g1 87 (by decide)]; exact f3
      simp only [exI]
      rw [l_100 (nx_le _), b_Cp_show_138, nL (by omega)]
      have hd : (lN (nx (shF S LF b z c f).1 % 100) < lN (tl LF 2 (env S f b (whoS S LF f b) (-1)) 100 0)) = (slp S LF b f (shF S LF b z c f).1 = true) := by
        rw [lLt (by omega) (by omega)]
        unfold slp
        rw [decide_eq_true_eq]
      cases h2 : slp S LF b f (shF S LF b z c f).1 with
      | false =>
        rw [shF_no ho h2] at ih
        rw [if_neg (by rw [hd, h2]; decide)]
        rw [b_Cp_show_160, nadd]
        exact ih _ I2 J2 k2 k3 k4
      | true =>
        rw [shF_yes ho h2] at ih
        rw [if_pos (by rw [hd]; exact h2)]
        simp (disch := omega) only [b_Cp_show_143 hg, b_Cp_show_160, ↓reduceIte, nadd, nmul, nsub, nlt, neq, ncl, nvi, ndiv, nrem, nand, nor, nxor, nshl, nshr, exI, exJ, exV, eq_self, true_and, and_true, true_or, or_true, if_true, if_false, not_true, not_false_eq_true, false_and, and_false, decide_true, decide_false, bi_T, bi_F, bi_0, bi_1, bi_z, bft, n10, n01, Nat.reduceEqDiff, Nat.reduceLT, Nat.reduceAdd, Nat.reduceMul, reduceCtorEq, k4]
        refine ih _ _ J2 ⟨fun a j y1 y2 => by rw [u2_a y2]; exact k2.1 a j y1 y2, k2.2⟩ (fun b' hb' => by rw [u2_k hb']; exact k3 b' hb') u2_s
theorem w_shCo (hg : Geo g) (hS : CS S I) (hL : LJ LF I W) (hl : lcS S LF < 1000000) (hP : PR S LF I) {s : Nat} (hs : s ≤ 1000002) (hQ : ∀ v1 v2 v5 v6 I' J', FsC I I' J J' → (∀ b, b < 12 → I' 87 b = nI (shX S LF s b)) → a_wp aTab aMX (d + 3) m_Cp_show 172 [.ref 6, v1, v2, aU, .int (nI (shB S LF s 12).2), v5, v6] [] (g, I', J') Q) (v1 v6 : Value) : a_wp aTab aMX (d + 3) m_Cp_show 43 [.ref 6, v1, .long (lN s), aU, .int (nI 0), .int (nI 0), v6] [] (g, I, J) Q := by
  refine dn (P := fun b => ∀ v1 v6 I' J', FsC I I' J J' → (∀ b', b' < b → I' 87 b' = nI (shX S LF s b')) → a_wp aTab aMX (d + 3) m_Cp_show 43 [.ref 6, v1, .long (lN (shB S LF s b).1), aU, .int (nI (shB S LF s b).2), .int (nI b), v6] [] (g, I', J') Q) (n := 12) ?_ ?_ 0 (by omega) v1 v6 I J ⟨fun _ _ _ _ => rfl, fun _ _ => rfl⟩ (fun b' hb' => absurd hb' (by omega))
  · intro v1 v6 I' J' f1 f2
    rw [b_Cp_show_43]
    simp (disch := omega) only [↓reduceIte, nadd, nmul, nsub, nlt, neq, ncl, nvi, ndiv, nrem, exI, exJ, exV, eq_self, true_and, and_true, true_or, or_true, if_true, if_false, not_true, not_false_eq_true, false_and, and_false, decide_true, decide_false, bi_T, bi_F, bi_0, bi_1, bi_z, bft, n10, n01, Nat.reduceEqDiff, Nat.reduceLT, Nat.reduceAdd, Nat.reduceMul, reduceCtorEq, Nat.lt_irrefl]
    exact hQ _ _ _ _ I' J' f1 f2
  · intro b hb ih v1 v6 I' J' f1 f2
    have hz := (shB_b (S := S) (LF := LF) hs b).1
    rw [b_Cp_show_43]
    simp (disch := omega) only [↓reduceIte, nadd, nmul, nsub, nlt, neq, ncl, nvi, ndiv, nrem, exI, exJ, exV, eq_self, true_and, and_true, true_or, or_true, if_true, if_false, not_true, not_false_eq_true, false_and, and_false, decide_true, decide_false, bi_T, bi_F, bi_0, bi_1, bi_z, bft, n10, n01, Nat.reduceEqDiff, Nat.reduceLT, Nat.reduceAdd, Nat.reduceMul, reduceCtorEq, hb, b_Cp_show_50 hg]
    refine w_shC hg hS hL hl hP hb hz (I' 87) (fun v1 v6 I2 J2 g1 g2 g3 => ?_) _ _ J' ⟨fun a j y1 y2 => by rw [u2_a y2]; exact f1.1 a j y1 y2, f1.2⟩ (fun b' hb' => u2_k hb') u2_s
    rw [b_Cp_show_166, nadd]
    refine ih _ _ I2 J2 g1 (fun b' hb' => ?_)
    by_cases q : b' = b
    · rw [q, g3]; rfl
    · rw [g2 b' q]; exact f2 b' (by omega)
def FsM (I I' : Nat → Nat → Int32) (J J' : Nat → Nat → Int64) : Prop := (∀ a j, a ≠ 122 → ¬ (a = 89 ∧ (j = 31 ∨ j = 34)) → I' a j = I a j) ∧ Xj J J'
theorem FsM_r {I' : Nat → Nat → Int32} {J' : Nat → Nat → Int64} (h : FsM I I' J J') {a : Nat} (h1 : a ≠ 122) (h2 : a ≠ 89) : I' a = I a := funext (fun j => h.1 a j h1 (by omega))
theorem w_shM (hg : Geo g) (hB : SB S) {T : Nat → Int32} (hM : MS S T (I 91)) {sc : Nat → Nat → Int32} (hL : LJ LF sc (I 91)) (hR : ∀ b, b < 12 → ∀ f, f < 6 → I 112 (6 * b + f) = nI (whoS S LF f b)) {b : Nat} (hb : b < 12) {z c : Nat} (hz : z ≤ 1000002) (K : Nat → Int32) (hQ : ∀ v1 v6 v7 I' J', FsM I I' J J' → (∀ b', b' ≠ b → I' 122 b' = K b') → I' 122 b = nI (shF S LF b z c 6).2.2 → a_wp aTab aMX (d + 4) m_Mo_show 194 [.ref 89, v1, .long (lN (shF S LF b z c 6).1), aU, .int (nI (shF S LF b z c 6).2.1), .int (nI b), v6, v7] [] (g, I', J') Q) : ∀ v1 v7 I' J', FsM I I' J J' → (∀ b', b' ≠ b → I' 122 b' = K b') → I' 122 b = nI 0 → a_wp aTab aMX (d + 4) m_Mo_show 71 [.ref 89, v1, .long (lN z), aU, .int (nI c), .int (nI b), .int (nI 0), v7] [] (g, I', J') Q := by
  have h7 := sb7 hB 0
  have he : shF S LF b z c 6 = shF S LF b z c (S 7 0) := by
    have := shF_end (S := S) (LF := LF) (b := b) (z := z) (c := c) (6 - S 7 0)
    rw [show S 7 0 + (6 - S 7 0) = 6 by omega] at this
    exact this
  rw [he] at hQ
  refine dn (P := fun f => ∀ v1 v7 I' J', FsM I I' J J' → (∀ b', b' ≠ b → I' 122 b' = K b') → I' 122 b = nI (shF S LF b z c f).2.2 → a_wp aTab aMX (d + 4) m_Mo_show 71 [.ref 89, v1, .long (lN (shF S LF b z c f).1), aU, .int (nI (shF S LF b z c f).2.1), .int (nI b), .int (nI f), v7] [] (g, I', J') Q) (n := S 7 0) ?_ ?_ 0 (by omega)
  · intro v1 v7 I' J' f1 f2 f3
    have e91 : I' 91 = I 91 := FsM_r f1 (by decide) (by decide)
    have e0 : I' 91 0 = nI (S 7 0) := by rw [e91]; exact hM.1
    rw [b_Mo_show_71 hg, ncl (by decide), e0]
    simp (disch := omega) only [↓reduceIte, nadd, nmul, nsub, nlt, neq, ncl, nvi, ndiv, nrem, exI, exJ, exV, eq_self, true_and, and_true, true_or, or_true, if_true, if_false, not_true, not_false_eq_true, false_and, and_false, decide_true, decide_false, bi_T, bi_F, bi_0, bi_1, bi_z, bft, n10, n01, Nat.reduceEqDiff, Nat.reduceLT, Nat.reduceAdd, Nat.reduceMul, reduceCtorEq, Nat.lt_irrefl]
    exact hQ _ _ _ I' J' f1 f2 f3
  · intro f hf ih v1 v7 I' J' f1 f2 f3
    have e91 : I' 91 = I 91 := FsM_r f1 (by decide) (by decide)
    have e0 : I' 91 0 = nI (S 7 0) := by rw [e91]; exact hM.1
    have hM' : MS S T (I' 91) := by rw [e91]; exact hM
    have hb1 := (shF_b (S := S) (LF := LF) (b := b) (c := c) hz f).1
    rw [b_Mo_show_71 hg, ncl (by decide), e0]
    cases ho : sOn S f b with
    | false =>
      rw [shF_off ho] at ih
      simp (disch := omega) only [↓reduceIte, nadd, nmul, nsub, nlt, neq, ncl, nvi, ndiv, nrem, exI, exJ, exV, eq_self, true_and, and_true, true_or, or_true, if_true, if_false, not_true, not_false_eq_true, false_and, and_false, decide_true, decide_false, bi_T, bi_F, bi_0, bi_1, bi_z, bft, n10, n01, Nat.reduceEqDiff, Nat.reduceLT, Nat.reduceAdd, Nat.reduceMul, reduceCtorEq, hf, b_Mo_show_82 hg, b_Mo_show_90, b_Mo_show_188, c_mIsOn hg hB hM', ho]
      exact ih _ _ I' J' f1 f2 f3
    | true =>
      have w4 := who_4 (S := S) (LF := LF) (f := f) (b := b)
      have e112 : I' 112 (6 * b + f) = nI (whoS S LF f b) := by rw [FsM_r f1 (by decide) (by decide)]; exact hR b hb f (by omega)
      simp (disch := omega) only [↓reduceIte, nadd, nmul, nsub, nlt, neq, ncl, nvi, ndiv, nrem, exI, exJ, exV, eq_self, true_and, and_true, true_or, or_true, if_true, if_false, not_true, not_false_eq_true, false_and, and_false, decide_true, decide_false, bi_T, bi_F, bi_0, bi_1, bi_z, bft, n10, n01, Nat.reduceEqDiff, Nat.reduceLT, Nat.reduceAdd, Nat.reduceMul, reduceCtorEq, hf, b_Mo_show_82 hg, b_Mo_show_90, b_Mo_show_93 hg, c_mIsOn hg hB hM', ho, e112, l_nx hb1, l_100 (nx_le _)]
      rw [show (-1 : Int32) = iI (-1) by decide]
      refine c_tells hg hB hM' (sc := sc) (by rw [e91]; exact hL) (head := 2) ho hb (by omega) (by omega) (by omega) (by decide) (by decide) (by decide) (by decide) (fun I2 J2 g1 g2 => ?_)
      have tb := tl_le (LF := LF) (head := 2) (E := env S f b (whoS S LF f b) (-1)) (show 0 ≤ 100 by decide)
      have k2 : FsM I I2 J J2 := ⟨fun a j y1 y2 => by rw [g1 a j y2]; exact f1.1 a j y1 y2, fun a j y1 y2 y3 => by rw [g2 a j y1 y2 y3]; exact f1.2 a j y1 y2 y3⟩
      have k3 : ∀ b', b' ≠ b → I2 122 b' = K b' := fun b' hb' => by rw [g1 122 b' (by omega)]; exact f2 b' hb'
      have k4 : I2 122 b = nI (shF S LF b z c f).2.2 := by rw [g1 122 b (by omega)]; exact f3
      simp only [exI]
      rw [b_Mo_show_138, nL (by omega)]
      have hd : (lN (nx (shF S LF b z c f).1 % 100) < lN (tl LF 2 (env S f b (whoS S LF f b) (-1)) 100 0)) = (slp S LF b f (shF S LF b z c f).1 = true) := by
        rw [lLt (by omega) (by omega)]
        unfold slp
        rw [decide_eq_true_eq]
      cases h2 : slp S LF b f (shF S LF b z c f).1 with
      | false =>
        rw [shF_no ho h2] at ih
        rw [if_neg (by rw [hd, h2]; decide)]
        simp (disch := omega) only [b_Mo_show_147, b_Mo_show_148 hg, b_Mo_show_170, b_Mo_show_171 hg, b_Mo_show_184, b_Mo_show_185, b_Mo_show_188, ↓reduceIte, nadd, nmul, nsub, nlt, neq, ncl, nvi, ndiv, nrem, nand, nor, nxor, nshl, nshr, exI, exJ, exV, eq_self, true_and, and_true, true_or, or_true, if_true, if_false, not_true, not_false_eq_true, false_and, and_false, decide_true, decide_false, bi_T, bi_F, bi_0, bi_1, bi_z, bft, n10, n01, Nat.reduceEqDiff, Nat.reduceLT, Nat.reduceAdd, Nat.reduceMul, reduceCtorEq, k4, Nat.or_zero, Nat.add_zero]
        refine ih _ _ _ J2 ⟨fun a j y1 y2 => by rw [u2_a y1]; exact k2.1 a j y1 y2, k2.2⟩ (fun b' hb' => by rw [u2_k hb']; exact k3 b' hb') u2_s
      | true =>
        rw [shF_yes ho h2] at ih
        rw [if_pos (by rw [hd]; exact h2)]
        simp (disch := omega) only [b_Mo_show_143, b_Mo_show_148 hg, b_Mo_show_163, b_Mo_show_171 hg, b_Mo_show_180, b_Mo_show_185, b_Mo_show_188, ↓reduceIte, nadd, nmul, nsub, nlt, neq, ncl, nvi, ndiv, nrem, nand, nor, nxor, nshl, nshr, exI, exJ, exV, eq_self, true_and, and_true, true_or, or_true, if_true, if_false, not_true, not_false_eq_true, false_and, and_false, decide_true, decide_false, bi_T, bi_F, bi_0, bi_1, bi_z, bft, n10, n01, Nat.reduceEqDiff, Nat.reduceLT, Nat.reduceAdd, Nat.reduceMul, reduceCtorEq, k4, Nat.one_ne_zero]
        refine ih _ _ _ J2 ⟨fun a j y1 y2 => by rw [u2_a y1]; exact k2.1 a j y1 y2, k2.2⟩ (fun b' hb' => by rw [u2_k hb']; exact k3 b' hb') u2_s
theorem w_shMo (hg : Geo g) (hB : SB S) {T : Nat → Int32} (hM : MS S T (I 91)) {sc : Nat → Nat → Int32} (hL : LJ LF sc (I 91)) (hR : ∀ b, b < 12 → ∀ f, f < 6 → I 112 (6 * b + f) = nI (whoS S LF f b)) {s : Nat} (hs : s ≤ 1000002) (hQ : ∀ v1 v2 v5 v6 v7 I' J', FsM I I' J J' → (∀ b, b < 12 → I' 122 b = nI (shX S LF s b)) → a_wp aTab aMX (d + 4) m_Mo_show 200 [.ref 89, v1, v2, aU, .int (nI (shB S LF s 12).2), v5, v6, v7] [] (g, I', J') Q) (v1 v6 v7 : Value) : a_wp aTab aMX (d + 4) m_Mo_show 53 [.ref 89, v1, .long (lN s), aU, .int (nI 0), .int (nI 0), v6, v7] [] (g, I, J) Q := by
  refine dn (P := fun b => ∀ v1 v6 v7 I' J', FsM I I' J J' → (∀ b', b' < b → I' 122 b' = nI (shX S LF s b')) → a_wp aTab aMX (d + 4) m_Mo_show 53 [.ref 89, v1, .long (lN (shB S LF s b).1), aU, .int (nI (shB S LF s b).2), .int (nI b), v6, v7] [] (g, I', J') Q) (n := 12) ?_ ?_ 0 (by omega) v1 v6 v7 I J ⟨fun _ _ _ _ => rfl, Xj_rf⟩ (fun b' hb' => absurd hb' (by omega))
  · intro v1 v6 v7 I' J' f1 f2
    rw [b_Mo_show_53]
    simp (disch := omega) only [↓reduceIte, nadd, nmul, nsub, nlt, neq, ncl, nvi, ndiv, nrem, exI, exJ, exV, eq_self, true_and, and_true, true_or, or_true, if_true, if_false, not_true, not_false_eq_true, false_and, and_false, decide_true, decide_false, bi_T, bi_F, bi_0, bi_1, bi_z, bft, n10, n01, Nat.reduceEqDiff, Nat.reduceLT, Nat.reduceAdd, Nat.reduceMul, reduceCtorEq, Nat.lt_irrefl]
    exact hQ _ _ _ _ _ I' J' f1 f2
  · intro b hb ih v1 v6 v7 I' J' f1 f2
    have hz := (shB_b (S := S) (LF := LF) hs b).1
    rw [b_Mo_show_53]
    simp (disch := omega) only [↓reduceIte, nadd, nmul, nsub, nlt, neq, ncl, nvi, ndiv, nrem, exI, exJ, exV, eq_self, true_and, and_true, true_or, or_true, if_true, if_false, not_true, not_false_eq_true, false_and, and_false, decide_true, decide_false, bi_T, bi_F, bi_0, bi_1, bi_z, bft, n10, n01, Nat.reduceEqDiff, Nat.reduceLT, Nat.reduceAdd, Nat.reduceMul, reduceCtorEq, hb, b_Mo_show_60 hg]
    refine w_shM hg hB hM hL hR hb hz (I' 122) (fun v1 v6 v7 I2 J2 g1 g2 g3 => ?_) _ _ _ J' ⟨fun a j y1 y2 => by rw [u2_a y1]; exact f1.1 a j y1 y2, f1.2⟩ (fun b' hb' => u2_k hb') u2_s
    rw [b_Mo_show_194, nadd]
    refine ih _ _ _ I2 J2 g1 (fun b' hb' => ?_)
    by_cases q : b' = b
    · rw [q, g3]; rfl
    · rw [g2 b' q]; exact f2 b' (by omega)
/-- slips, status, counts of refusals, the reference's plan -/
theorem INV_sh {I' : Nat → Nat → Int32} {J' : Nat → Nat → Int64} (h : INV N X ow S LF g I J) (hr : ∀ a j, a ≠ 34 → ¬ (87 ≤ a ∧ a ≤ 88) → a ≠ 90 → a ≠ 122 → ¬ (104 ≤ a ∧ a ≤ 112) → ¬ (a = 6 ∧ (j = 14 ∨ j = 15)) → ¬ (a = 89 ∧ (j = 0 ∨ j = 1 ∨ j = 31 ∨ j = 34 ∨ j = 36 ∨ j = 44 ∨ j = 45 ∨ j = 61)) → I' a j = I a j) (hJ : ∀ a, a ≠ 35 → a ≠ 102 → a ≠ 103 → a ≠ 89 → J' a = J a) (hRC : RC S LF I') (s15 : I' 6 15 = I' 89 61) (s14 : I' 6 14 = I' 89 1) (s87 : ∀ b, b < 12 → I' 87 b = I' 122 b) (s88 : ∀ r, 1 ≤ r → r < 7 → I' 88 r = I' 90 r) : INV N X ow S LF g I' J' := by
  obtain ⟨h1, h2, ⟨h3, h4, h5⟩, h6, ⟨B, t, t1, t2, t3, t4, t5⟩, ⟨z1, z2, z3, z4, z5, z6⟩, ⟨c1, c2, c3, c4, c5⟩, h9⟩ := h
  have r : ∀ a, ¬ (a = 6 ∨ a = 34 ∨ (87 ≤ a ∧ a ≤ 90) ∨ (104 ≤ a ∧ a ≤ 112) ∨ a = 122) → I' a = I a := fun a y => funext (fun j => hr a j (by omega) (by omega) (by omega) (by omega) (by omega) (by omega) (by omega))
  have q6 : ∀ j, j ≠ 14 → j ≠ 15 → I' 6 j = I 6 j := fun j y1 y2 => hr 6 j (by decide) (by decide) (by decide) (by decide) (by decide) (by omega) (by omega)
  have q89 : ∀ j, j = 6 ∨ j = 8 ∨ j = 13 → I' 89 j = I 89 j := fun j y => hr 89 j (by decide) (by decide) (by decide) (by decide) (by decide) (by omega) (by omega)
  have hW : I' 91 = I 91 := r 91 (by decide)
  refine ⟨h1, by rw [r 1 (by decide)]; exact h2, ⟨⟨fun a j y1 y2 => by rw [r a (by omega)]; exact h3.1 a j y1 y2, h3.2⟩, by rw [hW, r 14 (by decide)]; exact h4, by rw [hW]; exact LJ_cong (fun a y1 y2 => r a (by omega)) (fun _ _ => rfl) h5⟩, IMs_c h1.2.2.2.2.2.1 (r 92 (by decide)) (r 93 (by decide)) (fun a y1 _ _ => r a (by omega)) h6, ⟨B, t, t1, t2, by rw [q6 11 (by decide) (by decide)]; exact t3, by rw [q89 8 (by decide)]; exact t4, fun i hi => by rw [r 22 (by decide), r 94 (by decide)]; exact t5 i hi⟩, ⟨by rw [q6 12 (by decide) (by decide), q89 6 (by decide)]; exact z1, by rw [q6 13 (by decide) (by decide), q89 13 (by decide)]; exact z2, s14, s15, s87, s88⟩, ⟨HC_c (r 38 (by decide)) (r 39 (by decide)) (hJ 37 (by decide) (by decide) (by decide) (by decide)) c1, by rw [r 46 (by decide)]; exact c2, ?_, hRC, ?_⟩, ?_⟩
  · unfold PR at c3 ⊢
    rw [r 44 (by decide), r 47 (by decide)]; exact c3
  · rw [r 14 (by decide)]
    exact MC_c h1.2.2.2.1 (fun a y1 y2 => r a (by omega)) ⟨hJ 49 (by decide) (by decide) (by decide) (by decide), hJ 50 (by decide) (by decide) (by decide) (by decide)⟩ (fun a y1 _ _ => ⟨r a (by omega), hJ a (by omega) (by omega) (by omega) (by omega)⟩) c5
  · unfold STA at h9 ⊢
    rw [r 2 (by decide), r 3 (by decide), r 4 (by decide), hJ 100 (by decide) (by decide) (by decide) (by decide)]; exact h9
theorem RC_c {I' : Nat → Nat → Int32} (h1 : ∀ j, j = 36 ∨ j = 44 ∨ j = 45 → I' 89 j = I 89 j) (h2 : I' 112 = I 112) (h : RC S LF I) : RC S LF I' := by
  unfold RC LR at h ⊢
  rw [h1 36 (by decide), h1 44 (by decide), h1 45 (by decide), h2]; exact h
end SHC
