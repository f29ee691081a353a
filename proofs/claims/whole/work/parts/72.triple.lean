/-! ===== ways with three figures ===== -/
theorem ct_or {p q r : Nat → Bool} : ∀ n, (∀ k, k < n → p k = true → q k = true ∨ r k = true) → fb_ct p n ≤ fb_ct q n + fb_ct r n
  | 0, _ => Nat.zero_le _
  | n + 1, h => by
    have ih := ct_or n (fun k hk => h k (by omega))
    have hn := h n (by omega)
    rw [fb_ct_succ, fb_ct_succ, fb_ct_succ]
    by_cases e1 : p n = true
    · rcases hn e1 with e | e
      · rw [if_pos e1, if_pos e]; omega
      · rw [if_pos e1, if_pos e]; omega
    · rw [if_neg e1]; omega
theorem sm_nz {f : Nat → Nat} : ∀ n, fb_sm f n ≠ 0 → ∃ i, i < n ∧ f i ≠ 0
  | 0, h => absurd rfl h
  | n + 1, h => by
    by_cases q : f n = 0
    · rw [fb_sm_succ, q] at h
      obtain ⟨i, h1, h2⟩ := sm_nz n h
      exact ⟨i, by omega, h2⟩
    · exact ⟨n, by omega, q⟩
theorem ct_nz {p : Nat → Bool} {n : Nat} (h : fb_ct p n ≠ 0) : ∃ i, i < n ∧ p i = true := fb_ct_pos.1 (by omega)
noncomputable def row3 (fu a : Nat) (B C : Nat → Nat) (m l : Nat) : Nat := fb_sm (fun j => fb_ct (fun k => bP (gd3 fu a (B j) (C k))) l) m
noncomputable def ct3 (fu : Nat) (A B C : Nat → Nat) (n m l : Nat) : Nat := fb_sm (fun i => row3 fu (A i) B C m l) n
def fw3 (fu : Nat) (A B C : Nat → Nat) (n m l i j k : Nat) : Prop := i < n ∧ j < m ∧ k < l ∧ gd3 fu (A i) (B j) (C k) ∧ (∀ i', i' < i → ∀ j', j' < m → ∀ k', k' < l → ¬ gd3 fu (A i') (B j') (C k')) ∧ ∀ j' k', j' < m → k' < l → gd3 fu (A i) (B j') (C k') → lexle j k j' k'
theorem row3_z {fu a m l : Nat} {B C : Nat → Nat} (h : ∀ j k, j < m → k < l → ¬ gd3 fu a (B j) (C k)) : row3 fu a B C m l = 0 := by
  unfold row3
  rw [fb_sm_cong (g := fun _ => 0) (fun j hj => fb_ct_zero.2 (fun k hk => bP_f.2 (h j k hj hk))), fb_sm_const, Nat.mul_zero]
theorem row3_n {fu a m l : Nat} {B C : Nat → Nat} (h : row3 fu a B C m l = 0) : ∀ j k, j < m → k < l → ¬ gd3 fu a (B j) (C k) := by
  intro j k hj hk
  exact bP_f.1 (fb_ct_zero.1 (fb_sm_zero h j hj) k hk)
theorem row3_x {fu a m l : Nat} {B C : Nat → Nat} (h : row3 fu a B C m l ≠ 0) : ∃ j k, j < m ∧ k < l ∧ gd3 fu a (B j) (C k) := by
  obtain ⟨j, h1, h2⟩ := sm_nz _ h
  obtain ⟨k, h3, h4⟩ := ct_nz h2
  exact ⟨j, k, h1, h3, bP_t.1 h4⟩
theorem row3_le {fu a m l : Nat} {B C : Nat → Nat} (hm : m ≤ 1632) (hl : l ≤ 1632) : row3 fu a B C m l ≤ 2663424 := by
  have h1 : row3 fu a B C m l ≤ m * l := fb_sm_bound (fun k _ => fb_ct_le _ l)
  have h2 : m * l ≤ 1632 * 1632 := Nat.mul_le_mul hm hl
  omega
theorem cnt_all {fu a cell : Nat} {M N : List (Nat × Nat)} (hcf : fu.testBit cell = true) (hca : a.testBit cell = false) : cntB fu a cell M N none M.length + cntB fu a cell N M (some cell) N.length = row3 fu a (LM M) (LM N) M.length N.length := by
  have e2 : cntB fu a cell N M (some cell) N.length = fb_sm (fun j => fb_ct (fun k => (LM N k).testBit cell && bP (gd3 fu a (LM N k) (LM M j) ∧ ∀ c, some cell = some c → (LM M j).testBit c = false)) N.length) M.length := by
    rw [← sm_swap (fun j k => (LM N k).testBit cell && bP (gd3 fu a (LM N k) (LM M j) ∧ ∀ c, some cell = some c → (LM M j).testBit c = false))]
    unfold cntB
    refine fb_sm_cong (fun k _ => ?_)
    show (if (LM N k).testBit cell = true then rowB fu a M (some cell) (LM N k) else 0) = fb_ct (fun j => (LM N k).testBit cell && bP (gd3 fu a (LM N k) (LM M j) ∧ ∀ c, some cell = some c → (LM M j).testBit c = false)) M.length
    cases q : (LM N k).testBit cell
    · rw [if_neg (by decide)]
      exact (fb_ct_zero.2 (fun j _ => rfl)).symm
    · rw [if_pos rfl]
      rfl
  rw [e2]
  unfold cntB row3
  rw [← fb_sm_add]
  refine fb_sm_cong (fun j _ => ?_)
  show (if (LM M j).testBit cell = true then rowB fu a N none (LM M j) else 0) + fb_ct (fun k => (LM N k).testBit cell && bP (gd3 fu a (LM N k) (LM M j) ∧ ∀ c, some cell = some c → (LM M j).testBit c = false)) N.length = fb_ct (fun k => bP (gd3 fu a (LM M j) (LM N k))) N.length
  cases q : (LM M j).testBit cell
  · rw [if_neg (by decide), Nat.zero_add]
    refine fb_ct_cong (fun k _ => Bool.eq_iff_iff.2 ?_)
    rw [Bool.and_eq_true, bP_t, bP_t]
    constructor
    · rintro ⟨-, w, -⟩
      exact gd3_sw.1 w
    · intro w
      refine ⟨?_, gd3_sw.1 w, fun c hc => by cases hc; exact q⟩
      rcases w.1 cell hcf with y | y | y
      · rw [hca] at y; cases y
      · rw [q] at y; cases y
      · exact y
  · rw [if_pos rfl]
    have z : fb_ct (fun k => (LM N k).testBit cell && bP (gd3 fu a (LM N k) (LM M j) ∧ ∀ c, some cell = some c → (LM M j).testBit c = false)) N.length = 0 := by
      refine fb_ct_zero.2 (fun k _ => ?_)
      rw [Bool.and_eq_false_iff]
      right
      refine bP_f.2 (fun w => ?_)
      have := w.2 cell rfl
      rw [q] at this
      cases this
    rw [z, Nat.add_zero]
    refine fb_ct_cong (fun k _ => bP_c ?_)
    exact ⟨fun w => w.1, fun w => ⟨w, fun c hc => by cases hc⟩⟩
theorem pair_first {fu a cell x y x' y' : Nat} {M N : List (Nat × Nat)} (hcf : fu.testBit cell = true) (hca : a.testBit cell = false) (hn : M.length ≤ 1632) (c1 : (x = 1632 ∧ y = 1632) ∨ ∃ i k, i < M.length ∧ gdB fu a cell M N none i k ∧ swp false i k = (x, y)) (c3 : ∀ i k, i < M.length → gdB fu a cell M N none i k → lexle x y (swp false i k).1 (swp false i k).2) (e1 : (x' = x ∧ y' = y) ∨ ∃ i k, i < N.length ∧ gdB fu a cell N M (some cell) i k ∧ swp true i k = (x', y')) (e2 : lexle x' y' x y) (e3 : ∀ i k, i < N.length → gdB fu a cell N M (some cell) i k → lexle x' y' (swp true i k).1 (swp true i k).2) (hr : row3 fu a (LM M) (LM N) M.length N.length ≠ 0) : x' < M.length ∧ y' < N.length ∧ gd3 fu a (LM M x') (LM N y') ∧ ∀ j k, j < M.length → k < N.length → gd3 fu a (LM M j) (LM N k) → lexle x' y' j k := by
  have all : ∀ j k, j < M.length → k < N.length → gd3 fu a (LM M j) (LM N k) → lexle x' y' j k := by
    intro j k hj hk hgd
    cases q : (LM M j).testBit cell
    · have hk' : (LM N k).testBit cell = true := by
        rcases hgd.1 cell hcf with w | w | w
        · rw [hca] at w; cases w
        · rw [q] at w; cases w
        · exact w
      exact e3 k j hk ⟨hk', hj, gd3_sw.1 hgd, fun c hc => by cases hc; exact q⟩
    · have h1 : lexle x y j k := c3 j k hj ⟨q, hk, hgd, fun c hc => by cases hc⟩
      unfold lexle at h1 e2 ⊢
      omega
  obtain ⟨j, k, hj, hk, hjk⟩ := row3_x hr
  have hl := all j k hj hk hjk
  rcases e1 with ⟨ex, ey⟩ | ⟨i, k', hi, hg', hs⟩
  · rcases c1 with ⟨w1, w2⟩ | ⟨i, k2, hi, hg', hs⟩
    · unfold lexle at hl; omega
    · have h1 : i = x := congrArg Prod.fst hs
      have h2 : k2 = y := congrArg Prod.snd hs
      have h3 : i = x' := by omega
      have h4 : k2 = y' := by omega
      rw [h3] at hi hg'
      rw [h4] at hg'
      exact ⟨hi, hg'.2.1, hg'.2.2.1, all⟩
  · have h3 : k' = x' := congrArg Prod.fst hs
    have h4 : i = y' := congrArg Prod.snd hs
    rw [h4] at hi hg'
    rw [h3] at hg'
    exact ⟨hg'.2.1, hi, gd3_sw.1 hg'.2.2.1, all⟩
section TRI
variable {d : Nat} {g : aG} {I : Nat → Nat → Int32} {J : Nat → Nat → Int64} {Q : aQ}
theorem c_tryTriple (hg : Geo g) {p r t s z f f2 f3 W fu : Nat} {L M N : List (Nat × Nat)} (hP : PO g p) (hI : PI p L I J) (hok : mOk L) (hn : L.length ≤ 1632) (hR : PO g r) (hI2 : PI r M I J) (hok2 : mOk M) (hn2 : M.length ≤ 1632) (hT : PO g t) (hI3 : PI t N I J) (hok3 : mOk N) (hn3 : N.length ≤ 1632) (hMf : ∀ i, i < M.length → sbs (LM M i) fu) (hNf : ∀ i, i < N.length → sbs (LM N i) fu) (hs : pcI (nI s) = z) (hz : z ≤ 64) (hf : f < 6) (hf2 : f2 < 6) (hf3 : f3 < 6) (h12 : f ≠ f2) (h13 : f ≠ f3) (h23 : f2 ≠ f3) (h86 : I 86 0 = nI f) (h861 : I 86 1 = nI f2) (h862 : I 86 2 = nI f3) (hfu : fu < 2 ^ 64) (h50 : J 50 1 = lN fu) (hW : J 49 9 = lN W) (hQ : ∀ I' J', XM I I' → XJ J J' → J' 49 9 = lN (W + ct3 fu (LM L) (LM M) (LM N) L.length M.length N.length) → RES (ct3 fu (LM L) (LM M) (LM N) L.length M.length N.length ≠ 0) (fun X => ∃ i j k, fw3 fu (LM L) (LM M) (LM N) L.length M.length N.length i j k ∧ X f = nI (LQ L i) ∧ X f2 = nI (LQ M j) ∧ X f3 = nI (LQ N k)) I I' z s → Q none (g, I', J')) : a_call aTab aMX (d + 5) m_Maker_tryTriple [.ref 49, .int (nI s), .ref p, .ref r, .ref t] (g, I, J) Q := by
  have hRR := hR
  have hTT := hT
  obtain ⟨p0, k0, ⟨r3, k3, n3⟩, ⟨r4, k4, n4⟩, -⟩ := hP
  obtain ⟨p0', k0', ⟨r3', k3', n3'⟩, ⟨r4', k4', n4'⟩, -⟩ := hR
  obtain ⟨p0t, k0t, ⟨r3t, k3t, n3t⟩, ⟨r4t, k4t, n4t⟩, -⟩ := hT
  have mx1 := mxU_le (F := LM M) M.length
  have mx2 := mxU_le (F := LM N) N.length
  have hu : orU (LM M) M.length ||| orU (LM N) N.length < 2 ^ 64 := Nat.or_lt_two_pow (orU_lt _ hok2) (orU_lt _ hok3)
  rw [e_Maker_tryTriple, b_Maker_tryTriple_0]
  refine dn (P := fun i => ∀ I2 J2, XM I I2 → XJ J J2 → J2 49 9 = lN (W + ct3 fu (LM L) (LM M) (LM N) i M.length N.length) → RES (ct3 fu (LM L) (LM M) (LM N) i M.length N.length ≠ 0) (fun X => ∃ a b c, fw3 fu (LM L) (LM M) (LM N) i M.length N.length a b c ∧ X f = nI (LQ L a) ∧ X f2 = nI (LQ M b) ∧ X f3 = nI (LQ N c)) I I2 z s → ∀ v6 v8 v10 v11, a_wp aTab aMX (d + 4) m_Maker_tryTriple 3 [.ref 49, .int (nI s), .ref p, .ref r, .ref t, .int (nI i), v6, aU, v8, aU, v10, v11, aU] [] (g, I2, J2) Q) (n := L.length) ?_ ?_ 0 (by omega) I J (XM_r I) (XJ_r J) hW ⟨fun w => absurd rfl w.1, fun _ => ⟨rfl, rfl, rfl⟩⟩ _ _ _ _
  · intro I2 J2 hM hJ h9 hRs v6 v8 v10 v11
    have P2 := PI_x p0 hM hJ hI
    simp (disch := omega) only [b_Maker_tryTriple_3, b_Maker_tryTriple_237, ↓reduceIte, nadd, nmul, nsub, nlt, neq, ncl, nvi, ndiv, nrem, exI, exJ, exV, eq_self, true_and, and_true, true_or, or_true, if_true, if_false, not_true, not_false_eq_true, false_and, and_false, decide_true, decide_false, bi_T, bi_F, bi_0, bi_1, bi_z, bft, n10, n01, Nat.reduceEqDiff, Nat.reduceLT, Nat.reduceAdd, Nat.reduceMul, reduceCtorEq, k0, P2.1, Nat.lt_irrefl]
    exact hQ I2 J2 hM hJ h9 hRs
  · intro i hi ih I2 J2 hM hJ h9 hRs v6 v8 v10 v11
    have P2 := PI_x p0 hM hJ hI
    have R2 := PI_x p0' hM hJ hI2
    have T2 := PI_x p0t hM hJ hI3
    have e50 : J2 50 1 = lN fu := by rw [XJ_a hJ (by decide)]; exact h50
    have q : i < 1632 := by omega
    have es : ct3 fu (LM L) (LM M) (LM N) (i + 1) M.length N.length = ct3 fu (LM L) (LM M) (LM N) i M.length N.length + row3 fu (LM L i) (LM M) (LM N) M.length N.length := rfl
    have hAi := hok i hi
    have mono : ∀ X : Nat → Int32, (∃ a b c, fw3 fu (LM L) (LM M) (LM N) i M.length N.length a b c ∧ X f = nI (LQ L a) ∧ X f2 = nI (LQ M b) ∧ X f3 = nI (LQ N c)) → ∃ a b c, fw3 fu (LM L) (LM M) (LM N) (i + 1) M.length N.length a b c ∧ X f = nI (LQ L a) ∧ X f2 = nI (LQ M b) ∧ X f3 = nI (LQ N c) := by
      rintro X ⟨a, b, c, ⟨h1, h2⟩, h4⟩
      exact ⟨a, b, c, ⟨by omega, h2⟩, h4⟩
    have skip : (∀ j k, j < M.length → k < N.length → ¬ gd3 fu (LM L i) (LM M j) (LM N k)) → ∀ v6 v8 v10 v11, a_wp aTab aMX (d + 4) m_Maker_tryTriple 231 [.ref 49, .int (nI s), .ref p, .ref r, .ref t, .int (nI i), v6, aU, v8, aU, v10, v11, aU] [] (g, I2, J2) Q := by
      intro hno v6 v8 v10 v11
      rw [row3_z hno, Nat.add_zero] at es
      rw [b_Maker_tryTriple_231, nadd]
      exact ih I2 J2 hM hJ (by rw [es]; exact h9) (RES_m hRs (by omega) mono) _ _ _ _
    rw [b_Maker_tryTriple_3]
    simp (disch := omega) only [b_Maker_tryTriple_12 hg, ↓reduceIte, nadd, nmul, nsub, nlt, neq, ncl, nvi, ndiv, nrem, exI, exJ, exV, eq_self, true_and, and_true, true_or, or_true, if_true, if_false, not_true, not_false_eq_true, false_and, and_false, decide_true, decide_false, bi_T, bi_F, bi_0, bi_1, bi_z, bft, n10, n01, Nat.reduceEqDiff, Nat.reduceLT, Nat.reduceAdd, Nat.reduceMul, reduceCtorEq, k0, P2.1, hi, r3, k3, n3, q, (P2.2.2.2.1 i hi).1, e50, ldif]
    by_cases qr : sbs fu (LM L i)
    · rw [if_pos (by rw [dif0 hfu]; exact qr)]
      exact skip (fun j k hj hk w => w.2.2.1 (fun b hb => by
        rw [Nat.testBit_or, qr b (hMf j hj b hb)]; rfl)) _ _ _ _
    rw [if_neg (by rw [dif0 hfu]; exact qr)]
    have hrl := dif_lt (b := LM L i) hfu
    rw [b_Maker_tryTriple_44, k0', k0t, R2.2.2.1, T2.2.2.1, fb_orL, ldif]
    simp only [exI, exJ, exV, eq_self, true_and, and_true, true_or, or_true, if_true, if_false, not_true, not_false_eq_true, false_and, and_false, decide_true, decide_false, bi_T, bi_F, bi_0, bi_1, bi_z, bft, n10, n01, Nat.reduceEqDiff, Nat.reduceLT, Nat.reduceAdd, Nat.reduceMul, reduceCtorEq]
    by_cases qu : sbs (dif fu (LM L i)) (orU (LM M) M.length ||| orU (LM N) N.length)
    rotate_left
    · rw [if_neg (by rw [dif0 hrl]; exact qu), b_Maker_tryTriple_66]
      refine skip (fun j k hj hk w => qu (fun b hb => ?_)) _ _ _ _
      rw [dif_bit hfu, Bool.and_eq_true] at hb
      rw [Nat.testBit_or, Bool.or_eq_true]
      rcases w.1 b hb.1 with y | y | y
      · rw [y] at hb; cases hb.2
      · exact Or.inl (orU_sub M.length hj b y)
      · exact Or.inr (orU_sub N.length hk b y)
    rw [if_pos (by rw [dif0 hrl]; exact qu), b_Maker_tryTriple_69, c_bitL, pcL_N]
    simp only [exI]
    have hpc := pcN_le (dif fu (LM L i))
    rw [b_Maker_tryTriple_74, k0', k0t, R2.2.1, T2.2.1, nadd]
    simp only [exI, exJ, exV, eq_self, true_and, and_true, true_or, or_true, if_true, if_false, not_true, not_false_eq_true, false_and, and_false, decide_true, decide_false, bi_T, bi_F, bi_0, bi_1, bi_z, bft, n10, n01, Nat.reduceEqDiff, Nat.reduceLT, Nat.reduceAdd, Nat.reduceMul, reduceCtorEq]
    rw [rlt (by omega) (by omega)]
    by_cases qw : mxU (LM M) M.length + mxU (LM N) N.length < pcN (dif fu (LM L i))
    · rw [if_pos qw, b_Maker_tryTriple_87]
      refine skip (fun j k hj hk w => ?_) _ _ _ _
      have h1 := mxU_sub (F := LM M) M.length hj
      have h2 := mxU_sub (F := LM N) N.length hk
      have h3 : pcN (dif fu (LM L i)) ≤ pcN (LM M j) + pcN (LM N k) := by
        refine ct_or 64 (fun b _ hb => ?_)
        rw [dif_bit hfu, Bool.and_eq_true] at hb
        rcases w.1 b hb.1 with y | y | y
        · rw [y] at hb; cases hb.2
        · exact Or.inl y
        · exact Or.inr y
      omega
    rw [if_neg qw, b_Maker_tryTriple_90 hg]
    have hnz : dif fu (LM L i) ≠ 0 := fun w => qr ((dif_z hfu).1 w)
    have hXb : XM I2 (u2 (u2 I2 49 11 (nI 1632)) 49 12 (nI 1632)) := XM_u (XM_u (XM_r I2) (by omega)) (by omega)
    have R3 := PI_x p0' hXb (XJ_r J2) R2
    have T3 := PI_x p0t hXb (XJ_r J2) T2
    refine c_rarestCell hg hRR R3 hn2 hTT T3 hn3 hrl hnz ?_
    intro cell hc64 hcb
    rw [dif_bit hfu, Bool.and_eq_true] at hcb
    have hcf := hcb.1
    have hca : (LM L i).testBit cell = false := by
      cases y : (LM L i).testBit cell
      · rfl
      · rw [y] at hcb; cases hcb.2
    simp only [exI]
    rw [b_Maker_tryTriple_112 hg]
    refine c_countBeside (tn := false) (x0 := 1632) (y0 := 1632) hg hRR R3 hok2 hn2 hTT T3 hok3 hn3 hNf hAi hfu e50 hc64 (by omega) (by omega) (by rw [u2_k (by decide), u2_s]) u2_s ?_
    intro I4 x y hX4 hx hy h411 h412 c1 c2 c3
    have hX4M := Xb_M hX4
    have R4 := PI_x p0' hX4M (XJ_r J2) R3
    have T4 := PI_x p0t hX4M (XJ_r J2) T3
    simp only [exJ]
    rw [b_Maker_tryTriple_126 hg]
    refine c_countBeside (tn := true) (x0 := x) (y0 := y) hg hTT T4 hok3 hn3 hRR R4 hok2 hn2 hMf hAi hfu e50 hc64 hx hy h411 h412 ?_
    intro I5 x' y' hX5 hx' hy' h511 h512 e1 e2 e3
    simp only [exJ, Bool.false_eq_true, eq_self, if_false, if_true]
    have hM5 : XM I I5 := XM_t (XM_t (XM_t hM hXb) hX4M) (Xb_M hX5)
    have eo : ∀ a k, ¬ (a = 49 ∧ (k = 11 ∨ k = 12 ∨ k = 13)) → I5 a k = I2 a k := by
      intro a k h
      rw [hX5 a k h, hX4 a k h, show u2 (u2 I2 49 11 (nI 1632)) 49 12 (nI 1632) a k = u2 I2 49 11 (nI 1632) a k from if_neg (by omega), show u2 I2 49 11 (nI 1632) a k = I2 a k from if_neg (by omega)]
    have ec : lN (cntB fu (LM L i) cell M N none M.length) + lN (cntB fu (LM L i) cell N M (some cell) N.length) = lN (row3 fu (LM L i) (LM M) (LM N) M.length N.length) := by
      rw [lN_add, ← cnt_all hcf hca]
    rw [b_Maker_tryTriple_138 hg, h9, ec, lN_add]
    obtain ⟨C, hC⟩ : ∃ C, C = row3 fu (LM L i) (LM M) (LM N) M.length N.length := ⟨_, rfl⟩
    have hCl : C ≤ 2663424 := by rw [hC]; exact row3_le hn2 hn3
    have hpf := pair_first (x := x) (y := y) (x' := x') (y' := y') hcf hca hn2 c1 c3 e1 e2 e3
    rw [← hC] at es hpf ⊢
    have hJ3 : XJ J (u2 J2 49 9 (lN (W + ct3 fu (LM L) (LM M) (LM N) i M.length N.length + C))) := XJ_u hJ
    have e9 : u2 J2 49 9 (lN (W + ct3 fu (LM L) (LM M) (LM N) i M.length N.length + C)) 49 9 = lN (W + ct3 fu (LM L) (LM M) (LM N) (i + 1) M.length N.length) := by rw [u2_s, es, Nat.add_assoc]
    have RS3 : RES (ct3 fu (LM L) (LM M) (LM N) i M.length N.length ≠ 0) (fun X => ∃ a b c, fw3 fu (LM L) (LM M) (LM N) i M.length N.length a b c ∧ X f = nI (LQ L a) ∧ X f2 = nI (LQ M b) ∧ X f3 = nI (LQ N c)) I I5 z s := by
      unfold RES at hRs ⊢
      rw [eo 49 0 (by omega), eo 49 10 (by omega), show I5 85 = I2 85 from funext (fun k => eo 85 k (by omega))]
      exact hRs
    by_cases qC : C = 0
    · rw [if_neg (by rw [qC]; decide), b_Maker_tryTriple_231, nadd]
      rw [qC, Nat.add_zero] at es
      exact ih I5 _ hM5 hJ3 e9 (RES_m RS3 (by omega) mono) _ _ _ _
    rw [if_pos ((lN_lt (by decide) (by omega)).2 (by omega)), b_Maker_tryTriple_159 hg]
    obtain ⟨b1, b2, b3, b4⟩ := hpf qC
    refine c_isBetter hg hs ?_ ?_
    · intro hb
      by_cases qc : ct3 fu (LM L) (LM M) (LM N) i M.length N.length ≠ 0
      · exact absurd hb (RES_fd (by omega) RS3 qc)
      have hb0 := (RES_nf RS3 qc).1 hb
      have P5 := PI_x p0 hM5 hJ hI
      have R5 := PI_x p0' hM5 hJ hI2
      have T5 := PI_x p0t hM5 hJ hI3
      have q2 : x' < 1632 := by omega
      have q3 : y' < 1632 := by omega
      have e86 : ∀ j, I5 86 j = I 86 j := fun j => by rw [XM_a hM5 (by decide) (by decide)]
      obtain ⟨I6, hI6⟩ : ∃ I6, I6 = u2 (u2 I5 49 10 (nI s)) 49 0 (nI z) := ⟨_, rfl⟩
      have g86 : ∀ j, I6 86 j = I 86 j := fun j => by rw [hI6, u2_a (by decide), u2_a (by decide)]; exact e86 j
      have gp : ∀ a, 123 ≤ a → I6 a = I5 a := fun a ha => funext (fun j => by rw [hI6, u2_a (by omega), u2_a (by omega)])
      have g0 : I6 86 0 = nI f := by rw [g86]; exact h86
      have e4 : I6 (p + 2) i = nI (LQ L i) := by rw [gp _ (by omega)]; exact (P5.2.2.2.1 i hi).2
      have g11 : ∀ v, u2 I6 85 f v 49 11 = nI x' := fun v => by rw [u2_a (by decide), hI6, u2_k (by decide), u2_k (by decide)]; exact h511
      have g1 : ∀ v, u2 I6 85 f v 86 1 = nI f2 := fun v => by rw [u2_a (by decide), g86]; exact h861
      have e5 : ∀ v, u2 I6 85 f v (r + 2) x' = nI (LQ M x') := fun v => by rw [u2_a (by omega), gp _ (by omega)]; exact (R5.2.2.2.1 x' b1).2
      have g12 : ∀ v w, u2 (u2 I6 85 f v) 85 f2 w 49 12 = nI y' := fun v w => by rw [u2_a (by decide), u2_a (by decide), hI6, u2_k (by decide), u2_k (by decide)]; exact h512
      have g2 : ∀ v w, u2 (u2 I6 85 f v) 85 f2 w 86 2 = nI f3 := fun v w => by rw [u2_a (by decide), u2_a (by decide), g86]; exact h862
      have e6 : ∀ v w, u2 (u2 I6 85 f v) 85 f2 w (t + 2) y' = nI (LQ N y') := fun v w => by rw [u2_a (by omega), u2_a (by omega), gp _ (by omega)]; exact (T5.2.2.2.1 y' b2).2
      simp (disch := omega) only [b_Maker_tryTriple_164, b_Maker_tryTriple_167 hg, ↓reduceIte, nadd, nmul, nsub, nlt, neq, ncl, nvi, ndiv, nrem, exI, exJ, exV, eq_self, true_and, and_true, true_or, or_true, if_true, if_false, not_true, not_false_eq_true, false_and, and_false, decide_true, decide_false, bi_T, bi_F, bi_0, bi_1, bi_z, bft, n10, n01, Nat.reduceEqDiff, Nat.reduceLT, Nat.reduceAdd, Nat.reduceMul, reduceCtorEq, c_choose hg hs]
      rw [← hI6, b_Maker_tryTriple_172 hg]
      simp (disch := omega) only [b_Maker_tryTriple_231, ↓reduceIte, nadd, nmul, nsub, nlt, neq, ncl, nvi, ndiv, nrem, exI, exJ, exV, eq_self, true_and, and_true, true_or, or_true, if_true, if_false, not_true, not_false_eq_true, false_and, and_false, decide_true, decide_false, bi_T, bi_F, bi_0, bi_1, bi_z, bft, n10, n01, Nat.reduceEqDiff, Nat.reduceLT, Nat.reduceAdd, Nat.reduceMul, reduceCtorEq, k0, r4, k4, n4, q, g0, hf, e4, k0', r4', k4', n4', g11, q2, g1, hf2, e5, k0t, r4t, k4t, n4t, g12, q3, g2, hf3, e6]
      refine ih _ _ (XM_u (XM_u (XM_u (by rw [hI6]; exact XM_u (XM_u hM5 (by omega)) (by omega)) (by omega)) (by omega)) (by omega)) hJ3 e9 ⟨fun _ => ⟨?_, ?_, i, x', y', ⟨by omega, b1, b2, b3, fun i' hi' j' hj' k' hk' => ?_, b4⟩, ?_, ?_, ?_⟩, fun w => absurd ⟨by omega, hb0⟩ w⟩ _ _ _ _
      · rw [u2_a (by decide), u2_a (by decide), u2_a (by decide), hI6, u2_s]
      · rw [u2_a (by decide), u2_a (by decide), u2_a (by decide), hI6, u2_k (by decide), u2_s]
      · have z0 : ct3 fu (LM L) (LM M) (LM N) i M.length N.length = 0 := by omega
        exact row3_n (fb_sm_zero z0 i' hi') j' k' hj' hk'
      · rw [u2_k h13, u2_k h12, u2_s]
      · rw [u2_k h23, u2_s]
      · rw [u2_s]
    · intro hb
      have step : RES (ct3 fu (LM L) (LM M) (LM N) (i + 1) M.length N.length ≠ 0) (fun X => ∃ a b c, fw3 fu (LM L) (LM M) (LM N) (i + 1) M.length N.length a b c ∧ X f = nI (LQ L a) ∧ X f2 = nI (LQ M b) ∧ X f3 = nI (LQ N c)) I I5 z s := by
        by_cases qc : ct3 fu (LM L) (LM M) (LM N) i M.length N.length ≠ 0
        · exact RES_m RS3 (by omega) mono
        · have hb0 : ¬ BT I z := fun w => hb ((RES_nf RS3 qc).2 w)
          exact ⟨fun w => absurd w.2 hb0, fun _ => RS3.2 (fun w => hb0 w.2)⟩
      simp (disch := omega) only [b_Maker_tryTriple_164, b_Maker_tryTriple_231, ↓reduceIte, nadd, nmul, nsub, nlt, neq, ncl, nvi, ndiv, nrem, exI, exJ, exV, eq_self, true_and, and_true, true_or, or_true, if_true, if_false, not_true, not_false_eq_true, false_and, and_false, decide_true, decide_false, bi_T, bi_F, bi_0, bi_1, bi_z, bft, n10, n01, Nat.reduceEqDiff, Nat.reduceLT, Nat.reduceAdd, Nat.reduceMul, reduceCtorEq]
      exact ih I5 _ hM5 hJ3 e9 step _ _ _ _
end TRI
