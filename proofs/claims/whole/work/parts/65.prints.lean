/-! ===== how many shadows there can be ===== -/
theorem ok_vis {S : Nat → Nat → Nat} {T : Nat → Int32} (hB : SB S) {f dp x y : Nat} (hl : dp ≤ S 10 0) (h : plOk S T f dp x y) : x ≤ prj 31 dp (S 10 0) ∧ y ≤ prj 15 dp (S 10 0) := by
  obtain ⟨_, r, c, hr, hc, hs⟩ := h
  obtain ⟨h1, h2⟩ := sl_hit hB hl hr hc hs
  have h3 := h2.2.1
  have h4 := h2.2.2.1
  have h5 := h2.2.2.2.1
  omega
def visD (l e : Nat) : Nat := (prj 31 (e + 1) l + 1) * (prj 15 (e + 1) l + 1)
def visW (l D : Nat) : Nat := fb_sm (visD l) D
theorem visW_le : ∀ l : Fin 33, 2 ≤ l.val → visW l.val (min 8 l.val) ≤ 1632 := by decide +kernel
theorem plA_vis {S : Nat → Nat → Nat} {T : Nat → Int32} (hB : SB S) {f dp x y : Nat} {L : List (Nat × Nat)} (hl : dp ≤ S 10 0) (h : ¬ (x ≤ prj 31 dp (S 10 0) ∧ y ≤ prj 15 dp (S 10 0))) : plA S T f dp x y L = L := plA_n (fun z => h (ok_vis hB hl z.1))
theorem plL_row {S : Nat → Nat → Nat} {T : Nat → Int32} (hB : SB S) {f D x : Nat} (hD : D < S 10 0) (hx : x < 32) : ∀ y, y ≤ 16 → (plL S T f (512 * D + 16 * x + y)).length ≤ (plL S T f (512 * D + 16 * x)).length + (if x ≤ prj 31 (D + 1) (S 10 0) then min y (prj 15 (D + 1) (S 10 0) + 1) else 0)
  | 0, _ => Nat.le_add_right _ _
  | y + 1, hy => by
    have ih := plL_row (T := T) hB (f := f) hD hx y (by omega)
    have es := plL_s (S := S) (T := T) (f := f) (dp := D + 1) (y := y) (by omega) hx (by omega)
    rw [show D + 1 - 1 = D by omega] at es
    rw [es]
    by_cases q : x ≤ prj 31 (D + 1) (S 10 0)
    · rw [if_pos q] at ih ⊢
      by_cases q2 : y ≤ prj 15 (D + 1) (S 10 0)
      · have := plA_len (S := S) (T := T) (f := f) (dp := D + 1) (x := x) (y := y) (L := plL S T f (512 * D + 16 * x + y))
        omega
      · rw [plA_vis hB (by omega) (fun z => q2 z.2)]
        omega
    · rw [if_neg q] at ih ⊢
      rw [plA_vis hB (by omega) (fun z => q z.1)]
      exact ih
theorem plL_col {S : Nat → Nat → Nat} {T : Nat → Int32} (hB : SB S) {f D : Nat} (hD : D < S 10 0) : ∀ x, x ≤ 32 → (plL S T f (512 * D + 16 * x)).length ≤ (plL S T f (512 * D)).length + min x (prj 31 (D + 1) (S 10 0) + 1) * (prj 15 (D + 1) (S 10 0) + 1)
  | 0, _ => Nat.le_add_right _ _
  | x + 1, hx => by
    have ih := plL_col (T := T) hB (f := f) hD x (by omega)
    have hr := plL_row (T := T) hB (f := f) hD (show x < 32 by omega) 16 (by omega)
    rw [show 512 * D + 16 * (x + 1) = 512 * D + 16 * x + 16 by omega]
    by_cases q : x ≤ prj 31 (D + 1) (S 10 0)
    · rw [if_pos q] at hr
      rw [show min (x + 1) (prj 31 (D + 1) (S 10 0) + 1) = x + 1 by omega, Nat.succ_mul x]
      rw [show min x (prj 31 (D + 1) (S 10 0) + 1) = x by omega] at ih
      omega
    · rw [if_neg q] at hr
      rw [show min (x + 1) (prj 31 (D + 1) (S 10 0) + 1) = prj 31 (D + 1) (S 10 0) + 1 by omega]
      rw [show min x (prj 31 (D + 1) (S 10 0) + 1) = prj 31 (D + 1) (S 10 0) + 1 by omega] at ih
      omega
theorem plL_deep {S : Nat → Nat → Nat} {T : Nat → Int32} (hB : SB S) {f : Nat} : ∀ D, D ≤ S 10 0 → (plL S T f (512 * D)).length ≤ visW (S 10 0) D
  | 0, _ => Nat.le_refl _
  | D + 1, hD => by
    have ht := sb10 hB
    have ih := plL_deep (T := T) hB (f := f) D (by omega)
    have hc := plL_col (T := T) hB (f := f) (show D < S 10 0 by omega) 32 (by omega)
    have h31 := prj_c (c := 31) (by omega) (show D + 1 ≤ S 10 0 by omega) (by omega)
    rw [show min 32 (prj 31 (D + 1) (S 10 0) + 1) = prj 31 (D + 1) (S 10 0) + 1 by omega] at hc
    rw [show 512 * (D + 1) = 512 * D + 16 * 32 by omega]
    unfold visW at ih ⊢
    rw [fb_sm_succ]
    have e : visD (S 10 0) D = (prj 31 (D + 1) (S 10 0) + 1) * (prj 15 (D + 1) (S 10 0) + 1) := rfl
    omega
theorem plL_room {S : Nat → Nat → Nat} {T : Nat → Int32} (hB : SB S) {f D x y : Nat} (hD : D < min 8 (S 10 0)) (hx : x ≤ prj 31 (D + 1) (S 10 0)) (hy : y ≤ prj 15 (D + 1) (S 10 0)) : (plL S T f (512 * D + 16 * x + y)).length < 1632 := by
  have ht := sb10 hB
  have h31 := prj_c (c := 31) (by omega) (show D + 1 ≤ S 10 0 by omega) (by omega)
  have h15 := prj_r (r := 15) (by omega) (show D + 1 ≤ S 10 0 by omega) (by omega)
  have h1 := plL_deep (T := T) hB (f := f) D (by omega)
  have h2 := plL_col (T := T) hB (f := f) (show D < S 10 0 by omega) x (by omega)
  have h3 := plL_row (T := T) hB (f := f) (show D < S 10 0 by omega) (show x < 32 by omega) y (by omega)
  rw [if_pos hx] at h3
  have h4 := visW_le ⟨S 10 0, by omega⟩ ht.1
  have h4 : visW (S 10 0) (min 8 (S 10 0)) ≤ 1632 := h4
  have h5 := fb_sm_part (visD (S 10 0)) hD
  have e : visD (S 10 0) D = (prj 31 (D + 1) (S 10 0) + 1) * (prj 15 (D + 1) (S 10 0) + 1) := rfl
  unfold visW at h1 h4
  rw [show min x (prj 31 (D + 1) (S 10 0) + 1) = x by omega] at h2
  have h6 : (x + 1) * (prj 15 (D + 1) (S 10 0) + 1) ≤ (prj 31 (D + 1) (S 10 0) + 1) * (prj 15 (D + 1) (S 10 0) + 1) := Nat.mul_le_mul_right _ (by omega)
  rw [Nat.succ_mul x] at h6
  omega
theorem plL_all {S : Nat → Nat → Nat} {T : Nat → Int32} (hB : SB S) {f : Nat} : (plL S T f (nPl S)).length ≤ 1632 := by
  have ht := sb10 hB
  have h1 := plL_deep (T := T) hB (f := f) (min 8 (S 10 0)) (by omega)
  have h4 := visW_le ⟨S 10 0, by omega⟩ ht.1
  exact Nat.le_trans h1 h4
/-! the class's Prints -/
def PO (g : aG) (p : Nat) : Prop := 123 ≤ p ∧ gK g p = 5 ∧ (gR g p 3 = p + 1 ∧ gK g (p + 1) = 13 ∧ gN g (p + 1) = 1632) ∧ (gR g p 4 = p + 2 ∧ gK g (p + 2) = 12 ∧ gN g (p + 2) = 1632) ∧ (gR g p 5 = p + 3 ∧ gK g (p + 3) = 13 ∧ gN g (p + 3) = 1664) ∧ (gR g p 6 = p + 4 ∧ gK g (p + 4) = 12 ∧ gN g (p + 4) = 64) ∧ (gR g p 7 = p + 5 ∧ gK g (p + 5) = 12 ∧ gN g (p + 5) = 64) ∧ (gR g p 8 = p + 6 ∧ gK g (p + 6) = 12 ∧ gN g (p + 6) = 1632)
def lwb (m c : Nat) : Prop := m.testBit c = true ∧ ∀ i, i < c → m.testBit i = false
noncomputable def prv (F : Nat → Nat) (c : Nat) : Nat → Int32
  | 0 => -1
  | n + 1 => @ite _ (lwb (F n) c) (Classical.propDecidable _) (nI n) (prv F c n)
theorem prv_y {F : Nat → Nat} {c n : Nat} (h : lwb (F n) c) : prv F c (n + 1) = nI n := @if_pos _ (Classical.propDecidable _) h _ _ _
theorem prv_n {F : Nat → Nat} {c n : Nat} (h : ¬ lwb (F n) c) : prv F c (n + 1) = prv F c n := @if_neg _ (Classical.propDecidable _) h _ _ _
theorem prv_c {F G : Nat → Nat} {c : Nat} : ∀ n, (∀ i, i < n → F i = G i) → prv F c n = prv G c n
  | 0, _ => rfl
  | n + 1, h => by
    have ih := prv_c (c := c) n (fun i hi => h i (by omega))
    by_cases q : lwb (F n) c
    · rw [prv_y q, prv_y (by rw [← h n (by omega)]; exact q)]
    · rw [prv_n q, prv_n (by rw [← h n (by omega)]; exact q), ih]
theorem lw_u {m c c' : Nat} (h : lwb m c) (h' : lwb m c') : c = c' := by
  rcases Nat.lt_trichotomy c c' with q | q | q
  · have := h'.2 c q; rw [h.1] at this; cases this
  · exact q
  · have := h.2 c' q; rw [h'.1] at this; cases this
theorem lw_ex {m : Nat} (h : m ≠ 0) : ∃ c, lwb m c := by
  obtain ⟨i, hi⟩ := Nat.exists_testBit_of_ne_zero h
  have key : ∀ n i, i < n → m.testBit i = true → ∃ c, lwb m c := by
    intro n
    induction n with
    | zero => intro i h; omega
    | succ n ih =>
      intro i h1 h2
      by_cases q : ∃ j, j < i ∧ m.testBit j = true
      · obtain ⟨j, h3, h4⟩ := q
        exact ih j (by omega) h4
      · refine ⟨i, h2, fun j hj => ?_⟩
        cases q2 : m.testBit j
        · rfl
        · exact absurd ⟨j, hj, q2⟩ q
  exact key (i + 1) i (by omega) hi
def orU (F : Nat → Nat) : Nat → Nat
  | 0 => 0
  | n + 1 => orU F n ||| F n
def pcN (m : Nat) : Nat := fb_ct (fun k => m.testBit k) 64
def mxU (F : Nat → Nat) : Nat → Nat
  | 0 => 0
  | n + 1 => max (mxU F n) (pcN (F n))
theorem orU_c {F G : Nat → Nat} : ∀ n, (∀ i, i < n → F i = G i) → orU F n = orU G n
  | 0, _ => rfl
  | n + 1, h => by unfold orU; rw [orU_c n (fun i hi => h i (by omega)), h n (by omega)]
theorem mxU_c {F G : Nat → Nat} : ∀ n, (∀ i, i < n → F i = G i) → mxU F n = mxU G n
  | 0, _ => rfl
  | n + 1, h => by unfold mxU; rw [mxU_c n (fun i hi => h i (by omega)), h n (by omega)]
theorem orU_lt {F : Nat → Nat} : ∀ n, (∀ i, i < n → F i < 2 ^ 64) → orU F n < 2 ^ 64
  | 0, _ => Nat.two_pow_pos 64
  | n + 1, h => Nat.or_lt_two_pow (orU_lt n (fun i hi => h i (by omega))) (h n (by omega))
theorem pcN_le (m : Nat) : pcN m ≤ 64 := fb_ct_le _ 64
theorem mxU_le {F : Nat → Nat} : ∀ n, mxU F n ≤ 64
  | 0 => Nat.zero_le _
  | n + 1 => by
    have h1 := mxU_le (F := F) n
    have h2 := pcN_le (F n)
    unfold mxU
    omega
theorem pcL_N (m : Nat) : pcL (lN m) = pcN m := fb_ct_cong (fun k hk => bL_nN hk)
def hv (F : Nat → Nat) (n c w : Nat) : Nat := bl (fun b => decide (64 * w + b < n) && (F (64 * w + b)).testBit c) 64
theorem hv_c {F G : Nat → Nat} {n c w : Nat} (h : ∀ i, i < n → F i = G i) : hv F n c w = hv G n c w := by
  unfold hv
  apply bl_cong
  intro i hi
  by_cases q : 64 * w + i < n
  · rw [h _ q]
  · rw [decide_eq_false q, Bool.false_and, Bool.false_and]
theorem hv_s {F : Nat → Nat} {n c w : Nat} (h : ¬ (w = n / 64 ∧ (F n).testBit c = true)) : hv F (n + 1) c w = hv F n c w := by
  unfold hv
  apply bl_cong
  intro i hi
  by_cases q : 64 * w + i = n
  · rw [q, decide_eq_true (show n < n + 1 by omega), decide_eq_false (show ¬ n < n by omega), Bool.true_and, Bool.false_and]
    cases z : (F n).testBit c
    · rfl
    · exact absurd ⟨by omega, z⟩ h
  · rw [show decide (64 * w + i < n + 1) = decide (64 * w + i < n) from decide_eq_decide.2 (by omega)]
theorem hv_t {F : Nat → Nat} {n c : Nat} (h : (F n).testBit c = true) : hv F (n + 1) c (n / 64) = hv F n c (n / 64) ||| 1 <<< (n % 64) := by
  unfold hv
  apply Nat.eq_of_testBit_eq
  intro i
  rw [Nat.testBit_or, bl_bit, bl_bit, Nat.one_shiftLeft, Nat.testBit_two_pow]
  by_cases q : i < 64
  · rw [decide_eq_true q, Bool.true_and, Bool.true_and]
    by_cases z : n % 64 = i
    · rw [show 64 * (n / 64) + i = n by omega, h, decide_eq_true z, decide_eq_true (show n < n + 1 by omega), Bool.or_true]
      rfl
    · rw [decide_eq_false z, Bool.or_false, show decide (64 * (n / 64) + i < n + 1) = decide (64 * (n / 64) + i < n) from decide_eq_decide.2 (by omega)]
  · rw [decide_eq_false q, decide_eq_false (show ¬ n % 64 = i by omega)]
    rfl
theorem hv_lt (F : Nat → Nat) (n c w : Nat) : hv F n c w < 2 ^ 64 := bl_lt _ _
def PI (p : Nat) (L : List (Nat × Nat)) (I : Nat → Nat → Int32) (J : Nat → Nat → Int64) : Prop := I p 0 = nI L.length ∧ I p 1 = nI (mxU (LM L) L.length) ∧ J p 2 = lN (orU (LM L) L.length) ∧ (∀ i, i < L.length → J (p + 1) i = lN (LM L i) ∧ I (p + 2) i = nI (LQ L i)) ∧ (∀ c, c < 64 → ∀ w, w < 26 → J (p + 3) (c * 26 + w) = lN (hv (LM L) L.length c w)) ∧ (∀ c, c < 64 → I (p + 4) c = nI (fb_ct (fun i => (LM L i).testBit c) L.length)) ∧ (∀ c, c < 64 → I (p + 5) c = prv (LM L) c L.length) ∧ (∀ i, i < L.length → ∀ c, lwb (LM L i) c → I (p + 6) i = prv (LM L) c i)
def PF (p : Nat) (I I' : Nat → Nat → Int32) (J J' : Nat → Nat → Int64) : Prop := ∀ a, ¬ (p ≤ a ∧ a ≤ p + 6) → I' a = I a ∧ J' a = J a
theorem PF_t {p : Nat} {I I' I2 : Nat → Nat → Int32} {J J' J2 : Nat → Nat → Int64} (h1 : PF p I I' J J') (h2 : PF p I' I2 J' J2) : PF p I I2 J J2 := fun a ha => ⟨(h2 a ha).1.trans (h1 a ha).1, (h2 a ha).2.trans (h1 a ha).2⟩
theorem PF_r (p : Nat) (I : Nat → Nat → Int32) (J : Nat → Nat → Int64) : PF p I I J J := fun _ _ => ⟨rfl, rfl⟩
