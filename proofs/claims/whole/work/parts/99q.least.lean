/-! ===== what grows, and the least passing ===== -/
section FL2
variable {d : Nat} {g : aG} {I : Nat → Nat → Int32} {J : Nat → Nat → Int64} {Q : aQ} {S : Nat → Nat → Nat} {LF : aLF}
theorem c_findLeast2 {W : Nat → Int32} (hg : Geo g) (hx : 123 ≤ gx g) (hS : CS S I) (hL : LJ LF I W) (hC : HC S LF I J) (h12 : I 46 12 = nI 0) (hca : I 44 0 = nI 0 ∨ (I 44 0 = nI 1 ∧ PR S LF I)) (hP : gR g 44 6 = 0 ∨ ∃ B, PG g B ∧ B + 16 ≤ gx g)
    (hQ : ∀ g' I' J', Gx g g' → (g' = g ∨ (gR g 44 6 = 0 ∧ gx g' = gx g + 16 ∧ gs g' = gs g + 57358 ∧ PG g' (gx g))) → (gR g' 44 6 = 0 ∨ ∃ B, PG g' B ∧ B + 16 ≤ gx g') → (∀ a, a < gx g → a ∉ [34, 36, 38, 39, 40, 44, 45, 46, 47, 48] → (∀ B, PG g' B → ¬ (B ≤ a ∧ a < B + 16)) → I' a = I a) → (∀ a, a < gx g → a ∉ [35, 37] → (∀ B, PG g' B → ¬ (B ≤ a ∧ a < B + 16)) → J' a = J a) → HC S LF I' J' → I' 46 12 = nI 0 → I' 44 0 = nI 1 → PR S LF I' → Q (some (.int (bi (decide (lcS S LF < 1000000))))) (g', I', J')) : a_call aTab aMX (d + 11) m_Planner_findLeast [.ref 44] (g, I, J) Q := by
  have hB := hS.2
  have ht := sb10 hB
  have hGr : Gx g g := ⟨Nat.le_refl _, fun a _ => ⟨rfl, rfl, fun _ _ => rfl⟩⟩
  rw [e_Planner_findLeast, b_Planner_findLeast_0 hg]
  rcases hca with h0 | ⟨h1, h2⟩
  rotate_left
  · rw [h1]
    simp (disch := omega) only [b_Planner_findLeast_7 hg, ↓reduceIte, nadd, nmul, nsub, nlt, neq, ncl, nvi, ndiv, nrem, exI, exJ, exV, eq_self, true_and, and_true, true_or, or_true, if_true, if_false, not_true, not_false_eq_true, false_and, and_false, decide_true, decide_false, bi_T, bi_F, bi_0, bi_1, bi_z, bft, n10, n01, Nat.reduceEqDiff, Nat.reduceLT, Nat.reduceAdd, Nat.reduceMul, reduceCtorEq, h2.1, Nat.one_ne_zero]
    exact hQ g I J hGr (Or.inl rfl) hP (fun _ _ _ _ => rfl) (fun _ _ _ _ => rfl) hC h12 h1 h2
  rw [h0]
  simp (disch := omega) only [b_Planner_findLeast_12 hg, ↓reduceIte, nadd, nmul, nsub, nlt, neq, ncl, nvi, ndiv, nrem, exI, exJ, exV, eq_self, true_and, and_true, true_or, or_true, if_true, if_false, not_true, not_false_eq_true, false_and, and_false, decide_true, decide_false, bi_T, bi_F, bi_0, bi_1, bi_z, bft, n10, n01, Nat.reduceEqDiff, Nat.reduceLT, Nat.reduceAdd, Nat.reduceMul, reduceCtorEq]
  have f1 : Fr [44] I (u2 I 44 0 (nI 1)) := Fr_u (by decide) Fr_rf
  have e10 : u2 I 44 0 (nI 1) 10 2 = nI (S 10 2) := by rw [u2_a (by decide)]; exact cs10 hS 2
  rw [e10]
  refine c_firstBarred (d := d + 4) hg (CS_Fr (by decide) f1 hS) (LJ_Fr (by decide) f1 hL) (HC_c (u2_r (by decide)) (u2_r (by decide)) rfl hC) ht.2.2.2.1 ?_
  intro I2 J2 r1 r2 r3 r4
  refine ⟨_, rfl, ?_⟩
  have fr2 : ∀ a, a ∉ [34, 36, 38, 39, 40, 44, 45, 46, 47, 48] → I2 a = I a := fun a ha => by
    rw [r1 a (fun z => ha (by simp at z ⊢; omega)), u2_r (fun z => ha (by rw [z]; simp))]
  have frJ : ∀ a, a ∉ [35, 37] → J2 a = J a := fun a ha => r2 a ha
  have e440 : I2 44 0 = nI 1 := by rw [Fr_at r1 44 (by decide), u2_s]
  have e46 : I2 46 12 = nI 0 := by rw [Fr_at r1 46 (by decide), u2_a (by decide)]; exact h12
  have hfl := fbr_le (S := S) (LF := LF) (hp := S 10 2)
  obtain ⟨fb, hfb⟩ : ∃ fb, fb = fbr S LF (S 10 2) := ⟨_, rfl⟩
  rw [← hfb] at r4 hfl ⊢
  by_cases q : fb < 12
  · -- a beat is barred
    have hbar := bar_far hB (LF := LF) (by rw [← hfb]; exact q)
    have nf : ¬ lcS S LF < 1000000 := by rw [hbar.1]; exact Nat.lt_irrefl _
    have hne : ¬ nI fb = (-1 : Int32) := by
      intro z
      have := congrArg Int32.toInt z
      rw [nI_toInt (by omega)] at this
      have e : ((-1 : Int32)).toInt = -1 := by decide
      omega
    rw [if_pos q]
    simp (disch := omega) only [b_Planner_findLeast_34, b_Planner_findLeast_42, b_Planner_findLeast_43 hg, b_Planner_findLeast_53, ↓reduceIte, nadd, nmul, nsub, nlt, neq, ncl, nvi, ndiv, nrem, exI, exJ, exV, eq_self, true_and, and_true, true_or, or_true, if_true, if_false, not_true, not_false_eq_true, false_and, and_false, decide_true, decide_false, bi_T, bi_F, bi_0, bi_1, bi_z, bft, n10, n01, Nat.reduceEqDiff, Nat.reduceLT, Nat.reduceAdd, Nat.reduceMul, reduceCtorEq, hne, u2_s]
    have := hQ g (u2 I2 44 8 (nI 0)) J2 hGr (Or.inl rfl) hP (fun a _ ha _ => by rw [u2_r (fun z => ha (by rw [z]; simp))]; exact fr2 a ha) (fun a _ ha _ => frJ a ha) (HC_c (u2_r (by decide)) (u2_r (by decide)) rfl r3) (by rw [u2_a (by decide)]; exact e46) (by rw [u2_k (by decide)]; exact e440) ⟨by rw [u2_s, decide_eq_false nf]; rfl, fun z => absurd z nf⟩
    rw [decide_eq_false nf] at this
    exact this
  · have hfb12 : fbr S LF (S 10 2) = 12 := by rw [← hfb]; omega
    rw [if_neg q]
    simp (disch := omega) only [b_Planner_findLeast_34, b_Planner_findLeast_38, b_Planner_findLeast_43 hg, ↓reduceIte, nadd, nmul, nsub, nlt, neq, ncl, nvi, ndiv, nrem, exI, exJ, exV, eq_self, true_and, and_true, true_or, or_true, if_true, if_false, not_true, not_false_eq_true, false_and, and_false, decide_true, decide_false, bi_T, bi_F, bi_0, bi_1, bi_z, bft, n10, n01, Nat.reduceEqDiff, Nat.reduceLT, Nat.reduceAdd, Nat.reduceMul, reduceCtorEq, u2_s, Nat.one_ne_zero]
    have hH : ∀ b, b < 12 → HB S LF (u2 I2 44 8 (nI 1)) J2 b := fun b hb => HB_c (u2_r (by decide)) rfl (HC_1 r3 hb (r4 b hb (by omega)))
    have f3 : Fr [34, 36, 38, 39, 40, 44] I (u2 I2 44 8 (nI 1)) := Fr_u (by decide) (Fr_tr (Fr_w (by decide) f1) (Fr_w (by decide) r1))
    have hS3 := CS_Fr (by decide) f3 hS
    have hL3 := LJ_Fr (by decide) f3 hL
    have x46 : u2 I2 44 8 (nI 1) 46 12 = nI 0 := by rw [u2_a (by decide)]; exact e46
    rw [b_Planner_findLeast_55 hg]
    rcases hP with hn | ⟨B, hPB, hBx⟩
    · -- new rows
      rw [if_pos hn, b_Planner_findLeast_69]
      simp (disch := omega) only [ncl, nlt, Nat.not_lt_zero, not_false_eq_true, true_and, and_true, Nat.reduceLeDiff]
      obtain ⟨p1, p2, p3, p4⟩ := gPl_ok hx
      have eg : gput (gmul (gput (gmul g 17 12 12 4096) 44 6 (gx g)) 18 13 2 4096) 44 7 (gx (gput (gmul g 17 12 12 4096) 44 6 (gx g))) = gPl g := rfl
      have ex : gx (gput (gmul g 17 12 12 4096) 44 6 (gx g)) = gx g + 13 := rfl
      have k1 : gK (gmul g 17 12 12 4096) 44 = 4 := by
        show (if 44 = gx g then 17 else if gx g < 44 ∧ 44 ≤ gx g + 12 then 12 else gK g 44) = 4
        rw [if_neg (by omega), if_neg (by omega)]; exact k_44 hg
      have k2 : gK (gmul (gput (gmul g 17 12 12 4096) 44 6 (gx g)) 18 13 2 4096) 44 = 4 := by
        show (if 44 = gx g + 13 then 18 else if gx g + 13 < 44 ∧ 44 ≤ gx g + 13 + 2 then 13 else (if 44 = gx g then 17 else if gx g < 44 ∧ 44 ≤ gx g + 12 then 12 else gK g 44)) = 4
        rw [if_neg (by omega), if_neg (by omega), if_neg (by omega), if_neg (by omega)]; exact k_44 hg
      rw [k1, k2, eg, ex]
      simp only [eq_self, true_and]
      have zmr : ∀ (α : Type) (f : Nat → Nat → α) (x n : Nat) (v : α) (a : Nat), ¬ (x ≤ a ∧ a ≤ x + n) → zm f x n v a = f a := by
        intro α f x n v a ha
        funext j
        exact if_neg ha
      have zI : ∀ a, a < gx g → zm (zm (u2 I2 44 8 (nI 1)) (gx g) 12 0) (gx g + 13) 2 0 a = u2 I2 44 8 (nI 1) a := fun a ha => by rw [zmr _ _ _ _ _ _ (by omega), zmr _ _ _ _ _ _ (by omega)]
      have zJ : ∀ a, a < gx g → zm (zm J2 (gx g) 12 0) (gx g + 13) 2 0 a = J2 a := fun a ha => by rw [zmr _ _ _ _ _ _ (by omega), zmr _ _ _ _ _ _ (by omega)]
      generalize zm (zm (u2 I2 44 8 (nI 1)) (gx g) 12 0) (gx g + 13) 2 0 = I4 at *
      generalize zm (zm J2 (gx g) 12 0) (gx g + 13) 2 0 = J4 at *
      refine l94 (S := S) (LF := LF) (W := W) (Gx_geo hx p2 hg) p1 ⟨fun a k h1 h2 => by rw [zI a (by omega)]; exact hS3.1 a k h1 h2, hB⟩ (LJ_cong (fun a h1 h2 => zI a (by omega)) (fun _ _ => rfl) hL3) (fun b hb => HB_c (zI 38 (by omega)) (zJ 37 (by omega)) (hH b hb)) hfb12 (by rw [zI 46 (by omega)]; exact x46) ?_
      intro I5 J5 s1 s2 s3 s4 s5
      refine hQ (gPl g) I5 J5 p2 (Or.inr ⟨hn, p3, p4, p1⟩) (Or.inr ⟨gx g, p1, by omega⟩) ?_ ?_ ?_ s4 ?_ s5
      · intro a ha1 ha2 ha3
        rw [s1 a (fun z => ha2 (by simp at z ⊢; omega)) (by omega), zI a ha1, u2_r (fun z => ha2 (by rw [z]; simp))]
        exact fr2 a ha2
      · intro a ha1 ha2 ha3
        rw [s2 a (fun z => ha2 (by rw [z]; simp)) (by omega) (by omega), zJ a ha1]
        exact frJ a ha2
      · refine HC_c (I := I2) (J := J2) ?_ ?_ ?_ r3
        · rw [s1 38 (by decide) (by omega), zI 38 (by omega), u2_r (by decide)]
        · rw [s1 39 (by decide) (by omega), zI 39 (by omega), u2_r (by decide)]
        · rw [s2 37 (by decide) (by omega) (by omega), zJ 37 (by omega)]
      · rw [s3, zI 44 (by omega), u2_k (by decide)]; exact e440
    · have hB1 := hPB.1
      have n6 : ¬ gR g 44 6 = 0 := by rw [hPB.2.1]; omega
      have n7 : ¬ gR g 44 7 = 0 := by rw [hPB.2.2.1]; omega
      rw [if_neg n6, b_Planner_findLeast_62 hg, if_neg n7]
      refine l94 (S := S) (LF := LF) (W := W) hg hPB hS3 hL3 hH hfb12 x46 ?_
      intro I5 J5 s1 s2 s3 s4 s5
      refine hQ g I5 J5 hGr (Or.inl rfl) (Or.inr ⟨B, hPB, hBx⟩) ?_ ?_ ?_ s4 ?_ s5
      · intro a ha1 ha2 ha3
        have := ha3 B hPB
        rw [s1 a (fun z => ha2 (by simp at z ⊢; omega)) (by omega), u2_r (fun z => ha2 (by rw [z]; simp))]
        exact fr2 a ha2
      · intro a ha1 ha2 ha3
        have := ha3 B hPB
        rw [s2 a (fun z => ha2 (by rw [z]; simp)) (by omega) (by omega)]
        exact frJ a ha2
      · refine HC_c (I := I2) (J := J2) ?_ ?_ ?_ r3
        · rw [s1 38 (by decide) (by omega), u2_r (by decide)]
        · rw [s1 39 (by decide) (by omega), u2_r (by decide)]
        · rw [s2 37 (by decide) (by omega) (by omega)]
      · rw [s3, u2_k (by decide)]; exact e440
end FL2
/-- the heap has grown; what lay there lies there -/
def Gw (g g' : aG) : Prop := gx g ≤ gx g' ∧ ∀ a, a < gx g → gK g' a = gK g a ∧ gN g' a = gN g a ∧ ∀ k, ¬ (a = 44 ∧ (k = 6 ∨ k = 7)) → a ≠ 83 → a ≠ 21 → gR g' a k = gR g a k
theorem Gw_x {g g' : aG} (h : Gx g g') : Gw g g' := ⟨h.1, fun a ha => ⟨(h.2 a ha).1, (h.2 a ha).2.1, fun k y1 _ _ => (h.2 a ha).2.2 k y1⟩⟩
theorem Gw_p {g g' : aG} (h : Gp g g') : Gw g g' := ⟨h.1, fun a ha => ⟨(h.2 a ha).1, (h.2 a ha).2.1, fun k _ y2 _ => (h.2 a ha).2.2 k (Or.inl y2)⟩⟩
theorem PO_w {g g' : aG} {p : Nat} (h : Gw g g') (hp : p + 7 ≤ gx g) (hP : PO g p) : PO g' p := by
  have h0 := hP.1
  have r : ∀ a k, p ≤ a → a < p + 7 → gR g' a k = gR g a k := fun a k y1 y2 => (h.2 a (by omega)).2.2 k (by omega) (by omega) (by omega)
  have k : ∀ a, p ≤ a → a < p + 7 → gK g' a = gK g a ∧ gN g' a = gN g a := fun a y1 y2 => ⟨(h.2 a (by omega)).1, (h.2 a (by omega)).2.1⟩
  unfold PO at hP ⊢
  rw [r p 3 (by omega) (by omega), r p 4 (by omega) (by omega), r p 5 (by omega) (by omega), r p 6 (by omega) (by omega), r p 7 (by omega) (by omega), r p 8 (by omega) (by omega), (k p (by omega) (by omega)).1, (k (p + 1) (by omega) (by omega)).1, (k (p + 1) (by omega) (by omega)).2, (k (p + 2) (by omega) (by omega)).1, (k (p + 2) (by omega) (by omega)).2, (k (p + 3) (by omega) (by omega)).1, (k (p + 3) (by omega) (by omega)).2, (k (p + 4) (by omega) (by omega)).1, (k (p + 4) (by omega) (by omega)).2, (k (p + 5) (by omega) (by omega)).1, (k (p + 5) (by omega) (by omega)).2, (k (p + 6) (by omega) (by omega)).1, (k (p + 6) (by omega) (by omega)).2]
  exact hP
theorem SO_w {g g' : aG} {p : Nat} (h : Gw g g') (h0 : 123 ≤ p) (hp : p + 14 ≤ gx g) (hP : SO g p) : SO g' p := by
  have r : ∀ a k, p ≤ a → a < p + 14 → gR g' a k = gR g a k := fun a k y1 y2 => (h.2 a (by omega)).2.2 k (by omega) (by omega) (by omega)
  have k : ∀ a, p ≤ a → a < p + 14 → gK g' a = gK g a := fun a y1 y2 => (h.2 a (by omega)).1
  have n : ∀ a, p ≤ a → a < p + 14 → gN g' a = gN g a := fun a y1 y2 => (h.2 a (by omega)).2.1
  unfold SO SCo at hP ⊢
  simp (disch := omega) only [r, k, n]
  exact hP
theorem PG_gw {g g' : aG} {B : Nat} (h : Gw g g') (h6 : gR g' 44 6 = gR g 44 6 ∧ gR g' 44 7 = gR g 44 7) (hp : B + 16 ≤ gx g) (hP : PG g B) : PG g' B := by
  have h0 := hP.1
  have r : ∀ a k, B ≤ a → a < B + 16 → gR g' a k = gR g a k := fun a k y1 y2 => (h.2 a (by omega)).2.2 k (by omega) (by omega) (by omega)
  have k : ∀ a, B ≤ a → a < B + 16 → gK g' a = gK g a := fun a y1 y2 => (h.2 a (by omega)).1
  have n : ∀ a, B ≤ a → a < B + 16 → gN g' a = gN g a := fun a y1 y2 => (h.2 a (by omega)).2.1
  obtain ⟨a1, a2, a3, a4, a5, a6, a7, a8, a9⟩ := hP
  refine ⟨a1, by rw [h6.1]; exact a2, by rw [h6.2]; exact a3, by rw [k B (by omega) (by omega)]; exact a4, by rw [n B (by omega) (by omega)]; exact a5, fun i hi => ?_, by rw [k _ (by omega) (by omega)]; exact a7, by rw [n _ (by omega) (by omega)]; exact a8, fun i hi => ?_⟩
  · rw [r _ _ (by omega) (by omega), k _ (by omega) (by omega), n _ (by omega) (by omega)]; exact a6 i hi
  · rw [r _ _ (by omega) (by omega), k _ (by omega) (by omega), n _ (by omega) (by omega)]; exact a9 i hi
section GRW
variable {ow ow' : Nat → Nat} {g g' : aG} {S : Nat → Nat → Nat} {T : Nat → Int32} {I I' : Nat → Nat → Int32} {J J' : Nat → Nat → Int64}
theorem PW_w (h : Gw g g') (h83 : ∀ f, f < 6 → gR g' 83 f = gR g 83 f) (ho : ∀ a, a < gx g → ow' a = ow a) (hP : PW ow g) : PW ow' g' := by
  intro f hf
  rw [h83 f hf]
  rcases hP f hf with w | ⟨w1, w2, w3⟩
  · exact Or.inl w
  · exact Or.inr ⟨PO_w h w2 w1, Nat.le_trans w2 h.1, fun a y1 y2 => by rw [ho a (by omega)]; exact w3 a y1 y2⟩
theorem PLg_w (h : Gw g g') (h6 : gR g' 44 6 = gR g 44 6 ∧ gR g' 44 7 = gR g 44 7) (ho : ∀ a, a < gx g → ow' a = ow a) (hP : PLg ow g) : PLg ow' g' := by
  rcases hP with w | ⟨B, w1, w2, w3⟩
  · exact Or.inl (by rw [h6.1]; exact w)
  · exact Or.inr ⟨B, PG_gw h h6 w2 w1, Nat.le_trans w2 h.1, fun a y1 y2 => by rw [ho a (by omega)]; exact w3 a y1 y2⟩
theorem IMg_w (h : Gw g g') (h21 : ∀ k, k < 2 → gR g' 21 k = gR g 21 k) (ho : ∀ a, a < gx g → ow' a = ow a) (hP : IMg ow g) : IMg ow' g' := by
  intro k hk
  rw [h21 k hk]
  rcases hP k hk with w | ⟨w1, w2, w3, w4⟩
  · exact Or.inl w
  · exact Or.inr ⟨SO_w h w2 w3 w1, w2, Nat.le_trans w3 h.1, fun a y1 y2 => by rw [ho a (by omega)]; exact w4 a y1 y2⟩
theorem MC_w (hP : PW ow g) (h83 : ∀ f, f < 6 → gR g' 83 f = gR g 83 f) (h1 : ∀ a, 49 ≤ a → a ≤ 86 → I' a = I a) (h2 : J' 49 = J 49 ∧ J' 50 = J 50) (h3 : ∀ a, 123 ≤ a → a < gx g → 1 ≤ ow a → ow a ≤ 6 → I' a = I a ∧ J' a = J a) (h : MC S T g I J) : MC S T g' I' J' := by
  obtain ⟨m1, m2, m3⟩ := h
  refine ⟨?_, fun f hf => ?_, ?_⟩
  · rw [h1 49 (by omega) (by omega)]
    rcases m1 with w | ⟨w1, w2⟩
    · exact Or.inl w
    · exact Or.inr ⟨w1, TGs_q (fun a y1 y2 => h1 a (by omega) (by omega)) (by rw [h2.2]) w2⟩
  · rw [h1 84 (by omega) (by omega), h83 f hf]
    rcases m2 f hf with w | ⟨w1, w2, w3⟩
    · exact Or.inl w
    · rcases hP f hf with z | ⟨z1, z2, z3⟩
      · exact absurd z w2
      · have z0 := z1.1
        exact Or.inr ⟨w1, w2, PI_c (fun a y1 y2 => h3 a (by omega) (by omega) (by rw [z3 a y1 y2]; omega) (by rw [z3 a y1 y2]; omega)) w3⟩
  · rw [h1 49 (by omega) (by omega)]
    rcases m3 with w | ⟨c, w1, w2, w3⟩
    · exact Or.inl w
    · refine Or.inr ⟨c, w1, w2, ?_⟩
      unfold MR at w3 ⊢
      rw [h1 49 (by omega) (by omega), h1 85 (by omega) (by omega), h2.1]
      exact w3
theorem IMs_w (hI : IMg ow g) (h21 : ∀ k, k < 2 → gR g' 21 k = gR g 21 k) (h1 : I' 92 = I 92) (h2 : I' 93 = I 93) (h3 : ∀ a, 123 ≤ a → a < gx g → 8 ≤ ow a → ow a ≤ 9 → I' a = I a) (h : IMs g I) : IMs g' I' := by
  intro k hk
  rw [h1, h2, h21 k hk]
  rcases h k hk with w | ⟨w1, w2, S, LF, w3⟩
  · exact Or.inl w
  · refine Or.inr ⟨w1, w2, S, LF, ?_⟩
    rcases hI k hk with z | ⟨z1, z2, z3, z4⟩
    · exact absurd z w1
    · have e : ∀ a, 7 ≤ a → a < 21 → ISH (gR g 21 k) I' a = ISH (gR g 21 k) I a := fun a y1 y2 => by
        funext j
        show I' (gR g 21 k + (a - 7)) j = I (gR g 21 k + (a - 7)) j
        rw [h3 _ (by omega) (by omega) (by rw [z4 _ (by omega) (by omega)]; omega) (by rw [z4 _ (by omega) (by omega)]; omega)]
      obtain ⟨v1, v2, v3⟩ := w3
      refine ⟨⟨fun a j y1 y2 => by rw [e a y1 (by omega)]; exact v1.1 a j y1 y2, v1.2⟩, by rw [e 14 (by decide) (by decide)]; exact v2, LJ_cong (fun a y1 y2 => e a (by omega) (by omega)) (fun _ _ => rfl) v3⟩
end GRW
theorem lsF_0 {D : aM} : ∀ n, (lsF D n).1 ≤ 1000000 ∧ ((lsF D n).1 = 1000000 → (lsF D n).2 = 0)
  | 0 => ⟨Nat.le_refl _, fun _ => rfl⟩
  | n + 1 => by
    have ih := lsF_0 (D := D) n
    simp only [lsF]
    by_cases q : (D n).1 < (lsF D n).1
    · simp only [q, if_true]
      exact ⟨by omega, fun z => by omega⟩
    · simp only [q, if_false]
      refine ⟨ih.1, fun z => ?_⟩
      rw [if_neg (fun y => by omega), ih.2 z]
theorem lw_0 {S : Nat → Nat → Nat} {LF : aLF} (h : ¬ lcS S LF < 1000000) : lcS S LF = 1000000 ∧ lwS S LF = 0 := by
  have := lsF_0 (D := dpS S LF 12) 4096
  unfold lcS lwS at *
  have e : (lsF (dpS S LF 12) 4096).1 = 1000000 := by omega
  exact ⟨e, by rw [this.2 e]; rfl⟩
section LEA
variable {N : Nat} {X : Nat → Int32} {ow : Nat → Nat} {S : Nat → Nat → Nat} {LF : aLF} {g : aG} {I : Nat → Nat → Int32} {J : Nat → Nat → Int64} {Q : aQ} {d : Nat}
theorem c_flO (h : INV N X ow S LF g I J) (hQ : ∀ ow' g2 I2 J2, INV N X ow' S LF g2 I2 J2 → I2 44 0 = nI 1 → PR S LF I2 → Q (some (.int (bi (decide (lcS S LF < 1000000))))) (g2, I2, J2)) : a_call aTab aMX (d + 11) m_Planner_findLeast [.ref 44] (g, I, J) Q := by
  obtain ⟨hg, hx, hN, hP, hL, hI, hr1, hr2⟩ := h.1
  obtain ⟨c1, c2, c3, c4, c5⟩ := h.2.2.2.2.2.2.1
  refine c_findLeast2 hg hx h.2.2.1.1 h.2.2.1.2.2 c1 c2 c3 (by rcases hL with w | ⟨B, w1, w2, w3⟩; exact Or.inl w; exact Or.inr ⟨B, w1, w2⟩) (fun g2 I2 J2 a1 a2 a3 a4 a5 a6 a7 a8 a9 => ?_)
  have gw := Gw_x a1
  have h83 : ∀ f, f < 6 → gR g2 83 f = gR g 83 f := fun f _ => (a1.2 83 (by omega)).2.2 f (by omega)
  have h21 : ∀ f, f < 2 → gR g2 21 f = gR g 21 f := fun f _ => (a1.2 21 (by omega)).2.2 f (by omega)
  obtain ⟨ow', o1, hG, o2⟩ : ∃ ow' : Nat → Nat, (∀ a, a < gx g → ow' a = ow a) ∧ GG N ow' g2 ∧ ∀ a, a < gx g → ow a ≠ 7 → ∀ B, PG g2 B → ¬ (B ≤ a ∧ a < B + 16) := by
    rcases a2 with e | ⟨e1, e2, e3, e4⟩
    · refine ⟨ow, fun _ _ => rfl, by rw [e]; exact h.1, fun a ha hn B hB hz => ?_⟩
      rw [e] at hB
      rcases hL with w | ⟨B2, w1, w2, w3⟩
      · have := hB.1
        have := hB.2.1
        omega
      · have y1 := hB.2.1
        have y2 := w1.2.1
        exact hn (w3 a (by omega) (by omega))
    · refine ⟨fun a => if a < gx g then ow a else 7, fun a ha => if_pos ha, ⟨Gx_geo hx a1 hg, by omega, by rw [(a1.2 1 (by omega)).2.1]; exact hN, PW_w gw h83 (fun a ha => if_pos ha) hP, Or.inr ⟨gx g, e4, by omega, fun a y1 y2 => if_neg (by omega)⟩, IMg_w gw h21 (fun a ha => if_pos ha) hI, ?_, ?_⟩, fun a ha hn B hB hz => ?_⟩
      · have p1 : pn g = 1 := if_pos e1
        have p2 : pn g2 = 0 := if_neg (by rw [e4.2.1]; omega)
        have p3 : nl g2 = nl g := fb_ct_cong (fun f hf => by rw [h83 f hf])
        have p4 : imn g2 = imn g := fb_ct_cong (fun f hf => by rw [h21 f hf])
        rw [p2, p3, p4, e2]
        rw [p1] at hr1
        omega
      · have p1 : pn g = 1 := if_pos e1
        have p2 : pn g2 = 0 := if_neg (by rw [e4.2.1]; omega)
        have p3 : nl g2 = nl g := fb_ct_cong (fun f hf => by rw [h83 f hf])
        have p4 : imn g2 = imn g := fb_ct_cong (fun f hf => by rw [h21 f hf])
        rw [p2, p3, p4, e3]
        rw [p1] at hr2
        omega
      · have y1 := hB.2.1
        have y2 := e4.2.1
        omega
  have nb : ∀ a, a < 123 → ∀ B, PG g2 B → ¬ (B ≤ a ∧ a < B + 16) := fun a ha B hB hz => by
    have := hB.1
    omega
  have rI : ∀ a, a < 123 → ¬ (34 ≤ a ∧ a ≤ 48) → I2 a = I a := fun a y1 y2 => a4 a (by omega) (by simp; omega) (nb a y1)
  have rJ : ∀ a, a < 123 → ¬ (35 ≤ a ∧ a ≤ 37) → J2 a = J a := fun a y1 y2 => a5 a (by omega) (by simp; omega) (nb a y1)
  have big : ∀ a, 123 ≤ a → a < gx g → ow a ≠ 7 → I2 a = I a ∧ J2 a = J a := fun a y1 y2 y3 => ⟨a4 a y2 (by simp; omega) (o2 a y2 y3), a5 a y2 (by simp; omega) (o2 a y2 y3)⟩
  refine hQ ow' g2 I2 J2 (INV_ca h hG (fun a y1 y2 y3 y4 => rI a y1 (by omega)) (fun j _ => by rw [rI 89 (by decide) (by decide)]) (IMs_w hI h21 (rI 92 (by decide) (by decide)) (rI 93 (by decide) (by decide)) (fun a y1 y2 y3 y4 => (big a y1 y2 (by omega)).1) h.2.2.2.1) (rJ 100 (by decide) (by decide)) a6 a7 (Or.inr ⟨a8, a9⟩) ?_ (MC_w hP h83 (fun a y1 y2 => rI a (by omega) (by omega)) ⟨rJ 49 (by decide) (by decide), rJ 50 (by decide) (by decide)⟩ (fun a y1 y2 y3 y4 => big a y1 y2 (by omega)) c5)) a8 a9
  unfold RC LR at c4 ⊢
  rw [rI 89 (by decide) (by decide), rI 112 (by decide) (by decide)]
  exact c4
theorem c_mflO (h : INV N X ow S LF g I J) (hQ : ∀ I2 J2, INV N X ow S LF g I2 J2 → LR S LF I2 → Q none (g, I2, J2)) : a_call aTab aMX (d + 9) m_Mo_findLeast [.ref 89] (g, I, J) Q := by
  obtain ⟨c1, c2, c3, c4, c5⟩ := h.2.2.2.2.2.2.1
  refine c_mFindLeast h.1.1 h.2.2.1.1.2 h.2.2.1.2.1 (sc := I) h.2.2.1.2.2 c4 (fun I2 J2 a1 a2 a3 a4 => ?_)
  have r : ∀ a, ¬ (104 ≤ a ∧ a ≤ 112) → a ≠ 89 → I2 a = I a := fun a y1 y2 => Xe_r a1 y1 y2
  have rj : ∀ a, a ≠ 102 → a ≠ 103 → a ≠ 89 → J2 a = J a := fun a y1 y2 y3 => Xj_r a2 y1 y2 y3
  refine hQ I2 J2 (INV_ca h h.1 (fun a y1 y2 y3 y4 => r a (by omega) y3) (fun j hj => a1 89 j (by omega) (by omega)) (IMs_c h.1.2.2.2.2.2.1 (r 92 (by decide) (by decide)) (r 93 (by decide) (by decide)) (fun a y1 _ _ => r a (by omega) (by omega)) h.2.2.2.1) (rj 100 (by decide) (by decide) (by decide)) (HC_c (r 38 (by decide) (by decide)) (r 39 (by decide) (by decide)) (rj 37 (by decide) (by decide) (by decide)) c1) (by rw [r 46 (by decide) (by decide)]; exact c2) ?_ (Or.inr ⟨a3, a4⟩) (MC_c h.1.2.2.2.1 (fun a y1 y2 => r a (by omega) (by omega)) ⟨rj 49 (by decide) (by decide) (by decide), rj 50 (by decide) (by decide) (by decide)⟩ (fun a y1 _ _ => ⟨r a (by omega) (by omega), rj a (by omega) (by omega) (by omega)⟩) c5)) a4
  unfold PR at c3 ⊢
  rw [r 44 (by decide) (by decide), r 47 (by decide) (by decide)]; exact c3
theorem m_least {x : Int32} (h : INV N X ow S LF g I J) : BOTH N X (d + 12) m_Cp_least m_Mo_least [.int x] (g, I, J) := by
  by_cases q : ¬ x < nI 0 ∧ ¬ nI 1 < x
  rotate_left
  · have hg := h.1.1
    have q0 : x ≠ nI 0 := fun z => q (by rw [z]; decide)
    have q1 : x ≠ nI 1 := fun z => q (by rw [z]; decide)
    refine both_t h (-1) (fun Q hq => ?_) (fun Q hq => ?_)
    · simp (disch := omega) only [e_Cp_least, b_Cp_least_0, b_Cp_least_4, b_Cp_least_9, b_Cp_least_11 hg, b_Cp_least_18, b_Cp_least_21, b_Cp_least_25, b_Cp_least_29, b_Cp_least_30, b_Cp_least_31, b_Cp_least_35 hg, b_Cp_least_45 hg, b_Cp_least_52, q0, q1, exI, exJ, exV, eq_self, true_and, and_true, true_or, or_true, if_true, if_false, not_true, not_false_eq_true, false_and, and_false, decide_true, decide_false, bi_T, bi_F, bi_0, bi_1, bi_z, bft, n10, n01, Nat.reduceEqDiff, Nat.reduceLT, Nat.reduceAdd, Nat.reduceMul, reduceCtorEq]; exact hq
    · simp (disch := omega) only [e_Mo_least, b_Mo_least_0 hg, b_Mo_least_12, b_Mo_least_15, c_inI, decide_eq_false q, exI, exJ, exV, eq_self, true_and, and_true, true_or, or_true, if_true, if_false, not_true, not_false_eq_true, false_and, and_false, decide_true, decide_false, bi_T, bi_F, bi_0, bi_1, bi_z, bft, n10, n01, Nat.reduceEqDiff, Nat.reduceLT, Nat.reduceAdd, Nat.reduceMul, reduceCtorEq]; exact hq
  obtain ⟨w, rfl, -, hw⟩ := irng (by decide) (by decide) q.1 q.2
  have hc : w = 0 ∨ w = 1 := by omega
  have hlw : lwS S LF ≤ 1000000000 := Nat.min_le_left _ _
  obtain ⟨V, eV⟩ : ∃ V : Int32, V = if w = 1 then nI (lwS S LF) else if lcS S LF < 1000000 then nI (lcS S LF) else -1 := ⟨_, rfl⟩
  have hg := h.1.1
  have st : ∀ Q : aQ, a_wp aTab aMX (d + 11) m_Cp_least 11 [.ref 6, .int (nI w)] [] (g, I, J) Q → a_call aTab aMX (d + 12) m_Cp_least [.ref 6, .int (nI w)] (g, I, J) Q := fun Q hq => by
    rcases hc with rfl | rfl
    · simp (disch := omega) only [e_Cp_least, b_Cp_least_0, exI, exJ, exV, eq_self, true_and, and_true, true_or, or_true, if_true, if_false, not_true, not_false_eq_true, false_and, and_false, decide_true, decide_false, bi_T, bi_F, bi_0, bi_1, bi_z, bft, n10, n01, Nat.reduceEqDiff, Nat.reduceLT, Nat.reduceAdd, Nat.reduceMul, reduceCtorEq]; exact hq
    · simp (disch := omega) only [e_Cp_least, b_Cp_least_0, b_Cp_least_4, exI, exJ, exV, eq_self, true_and, and_true, true_or, or_true, if_true, if_false, not_true, not_false_eq_true, false_and, and_false, decide_true, decide_false, bi_T, bi_F, bi_0, bi_1, bi_z, bft, n10, n01, Nat.reduceEqDiff, Nat.reduceLT, Nat.reduceAdd, Nat.reduceMul, reduceCtorEq]; exact hq
  unfold BOTH
  refine st _ ?_
  rw [b_Cp_least_11 hg]
  refine c_flO h (fun ow2 g2 I2 J2 i2 f1 f2 => ?_)
  have hg2 := i2.1.1
  have fin : ∃ i : Int32, some (Value.int V) = some (.int i) ∧ (g2, I2, J2).2.1 1 = X ∧ gN (g2, I2, J2).1 1 = N ∧ a_call aTab aMX (d + 12) m_Mo_least [.ref 89, .int (nI w)] (g2, I2, J2) (fun v3 h3 => ∃ i3 : Int32, v3 = some (.int i3) ∧ i = i3 ∧ INVx N X h3) := by
    refine ⟨_, rfl, i2.2.1, i2.1.2.2.1, ?_⟩
    simp (disch := omega) only [e_Mo_least, b_Mo_least_0 hg2, b_Mo_least_12, b_Mo_least_17 hg2, c_inI, decide_eq_true q, exI, exJ, exV, eq_self, true_and, and_true, true_or, or_true, if_true, if_false, not_true, not_false_eq_true, false_and, and_false, decide_true, decide_false, bi_T, bi_F, bi_0, bi_1, bi_z, bft, n10, n01, Nat.reduceEqDiff, Nat.reduceLT, Nat.reduceAdd, Nat.reduceMul, reduceCtorEq]
    refine c_mflO (d := d + 2) (INV_0 i2) (fun I3 J3 i3 l3 => ?_)
    simp only [exV, true_and]
    rcases hc with rfl | rfl
    · rw [eV]
      by_cases z : lcS S LF < 1000000
      · have zz : ¬ lcS S LF = 1000000 := by omega
        simp (disch := omega) only [b_Mo_least_21, b_Mo_least_33 hg2, b_Mo_least_47 hg2, b_Mo_least_51, l3.1, neq, z, zz, exI, exJ, exV, eq_self, true_and, and_true, true_or, or_true, if_true, if_false, not_true, not_false_eq_true, false_and, and_false, decide_true, decide_false, bi_T, bi_F, bi_0, bi_1, bi_z, bft, n10, n01, Nat.reduceEqDiff, Nat.reduceLT, Nat.reduceAdd, Nat.reduceMul, reduceCtorEq, Nat.zero_ne_one]
        exact INVx_i i3
      · have zz := (lw_0 z).1
        simp (disch := omega) only [b_Mo_least_21, b_Mo_least_33 hg2, b_Mo_least_43, b_Mo_least_51, l3.1, neq, z, zz, exI, exJ, exV, eq_self, true_and, and_true, true_or, or_true, if_true, if_false, not_true, not_false_eq_true, false_and, and_false, decide_true, decide_false, bi_T, bi_F, bi_0, bi_1, bi_z, bft, n10, n01, Nat.reduceEqDiff, Nat.reduceLT, Nat.reduceAdd, Nat.reduceMul, reduceCtorEq, Nat.zero_ne_one, Nat.lt_irrefl]
        exact INVx_i i3
    · rw [eV]
      simp (disch := omega) only [b_Mo_least_21, b_Mo_least_26 hg2, b_Mo_least_51, l3.2.1, exI, exJ, exV, eq_self, true_and, and_true, true_or, or_true, if_true, if_false, not_true, not_false_eq_true, false_and, and_false, decide_true, decide_false, bi_T, bi_F, bi_0, bi_1, bi_z, bft, n10, n01, Nat.reduceEqDiff, Nat.reduceLT, Nat.reduceAdd, Nat.reduceMul, reduceCtorEq]
      exact INVx_i i3
  simp only [exI] at fin
  rcases hc with rfl | rfl
  · by_cases z : lcS S LF < 1000000
    · simp only [z, exI, exJ, exV, eq_self, true_and, and_true, true_or, or_true, if_true, if_false, not_true, not_false_eq_true, false_and, and_false, decide_true, decide_false, bi_T, bi_F, bi_0, bi_1, bi_z, bft, n10, n01, Nat.reduceEqDiff, Nat.reduceLT, Nat.reduceAdd, Nat.reduceMul, reduceCtorEq, Nat.zero_ne_one] at eV
      simp (disch := omega) only [b_Cp_least_18, b_Cp_least_31, b_Cp_least_35 hg2, b_Cp_least_52, z, (f2.2 z).1, ← eV, exI, exJ, exV, eq_self, true_and, and_true, true_or, or_true, if_true, if_false, not_true, not_false_eq_true, false_and, and_false, decide_true, decide_false, bi_T, bi_F, bi_0, bi_1, bi_z, bft, n10, n01, Nat.reduceEqDiff, Nat.reduceLT, Nat.reduceAdd, Nat.reduceMul, reduceCtorEq]
      exact fin
    · simp only [z, exI, exJ, exV, eq_self, true_and, and_true, true_or, or_true, if_true, if_false, not_true, not_false_eq_true, false_and, and_false, decide_true, decide_false, bi_T, bi_F, bi_0, bi_1, bi_z, bft, n10, n01, Nat.reduceEqDiff, Nat.reduceLT, Nat.reduceAdd, Nat.reduceMul, reduceCtorEq, Nat.zero_ne_one] at eV
      simp (disch := omega) only [b_Cp_least_18, b_Cp_least_21, b_Cp_least_25, b_Cp_least_30, z, ← eV, exI, exJ, exV, eq_self, true_and, and_true, true_or, or_true, if_true, if_false, not_true, not_false_eq_true, false_and, and_false, decide_true, decide_false, bi_T, bi_F, bi_0, bi_1, bi_z, bft, n10, n01, Nat.reduceEqDiff, Nat.reduceLT, Nat.reduceAdd, Nat.reduceMul, reduceCtorEq]
      exact fin
  · rw [if_pos rfl] at eV
    by_cases z : lcS S LF < 1000000
    · simp (disch := omega) only [b_Cp_least_18, b_Cp_least_31, b_Cp_least_45 hg2, b_Cp_least_52, z, (f2.2 z).2.1, ← eV, exI, exJ, exV, eq_self, true_and, and_true, true_or, or_true, if_true, if_false, not_true, not_false_eq_true, false_and, and_false, decide_true, decide_false, bi_T, bi_F, bi_0, bi_1, bi_z, bft, n10, n01, Nat.reduceEqDiff, Nat.reduceLT, Nat.reduceAdd, Nat.reduceMul, reduceCtorEq]
      exact fin
    · rw [(lw_0 z).2] at eV
      rw [eV] at fin
      simp (disch := omega) only [b_Cp_least_18, b_Cp_least_21, b_Cp_least_29, b_Cp_least_30, z, exI, exJ, exV, eq_self, true_and, and_true, true_or, or_true, if_true, if_false, not_true, not_false_eq_true, false_and, and_false, decide_true, decide_false, bi_T, bi_F, bi_0, bi_1, bi_z, bft, n10, n01, Nat.reduceEqDiff, Nat.reduceLT, Nat.reduceAdd, Nat.reduceMul, reduceCtorEq]
      exact fin
end LEA
