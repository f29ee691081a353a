/-! ===== masks, and what fills ===== -/
theorem m1L : (-1 : Int64) = lN (2 ^ 64 - 1) := by decide
def dif (a b : Nat) : Nat := a &&& (b ^^^ (2 ^ 64 - 1))
theorem ldif (a b : Nat) : lN a &&& (lN b ^^^ (-1 : Int64)) = lN (dif a b) := by
  unfold dif
  rw [m1L, fb_xorL, fb_andL]
theorem dif_bit {a b i : Nat} (ha : a < 2 ^ 64) : (dif a b).testBit i = (a.testBit i && !b.testBit i) := by
  unfold dif
  rw [Nat.testBit_and, Nat.testBit_xor, Nat.testBit_two_pow_sub_one]
  by_cases q : i < 64
  · rw [decide_eq_true q, Bool.xor_true]
  · rw [tb64 ha (by omega)]
    rfl
theorem dif_lt {a b : Nat} (ha : a < 2 ^ 64) : dif a b < 2 ^ 64 := Nat.lt_of_le_of_lt Nat.and_le_left ha
def sbs (a b : Nat) : Prop := ∀ i, a.testBit i = true → b.testBit i = true
theorem dif0 {a b : Nat} (ha : a < 2 ^ 64) : (lN (dif a b) = lN 0) = sbs a b := by
  rw [lN64 (dif_lt ha) (Nat.two_pow_pos 64)]
  apply propext
  constructor
  · intro h i hi
    have e := dif_bit (a := a) (b := b) (i := i) ha
    rw [h, Nat.zero_testBit, hi, Bool.true_and] at e
    cases q : b.testBit i
    · rw [q] at e; cases e
    · rfl
  · intro h
    apply Nat.eq_of_testBit_eq
    intro i
    rw [dif_bit ha, Nat.zero_testBit]
    cases q : a.testBit i
    · rfl
    · rw [h i q]; rfl
theorem dif_z {a b : Nat} (ha : a < 2 ^ 64) : dif a b = 0 ↔ sbs a b := by
  rw [← dif0 ha, lN64 (dif_lt ha) (Nat.two_pow_pos 64)]
def rs (a t : Nat) : Nat := bl (fun i => decide (t ≤ i) && a.testBit i) 64
theorem rs_lt (a t : Nat) : rs a t < 2 ^ 64 := bl_lt _ _
theorem rs_bit {a t i : Nat} (ha : a < 2 ^ 64) : (rs a t).testBit i = (decide (t ≤ i) && a.testBit i) := by
  unfold rs
  rw [bl_bit]
  by_cases q : i < 64
  · rw [decide_eq_true q, Bool.true_and]
  · rw [decide_eq_false q, tb64 ha (by omega), Bool.false_and, Bool.and_false]
theorem rs_0 {a : Nat} (ha : a < 2 ^ 64) : rs a 0 = a := by
  apply Nat.eq_of_testBit_eq
  intro i
  rw [rs_bit ha, decide_eq_true (Nat.zero_le i), Bool.true_and]
theorem clr_low {n b : Nat} (h : lwb n b) : ∀ i, (n &&& (n - 1)).testBit i = (n.testBit i && !decide (i = b)) := by
  intro i
  obtain ⟨m, e⟩ := tz_dec h.1 h.2
  have hp : 0 < 2 ^ b := Nat.two_pow_pos b
  have e1 : n - 1 = 2 ^ b * (2 * m) + (2 ^ b - 1) := by
    rw [e, Nat.mul_add, Nat.mul_one]
    omega
  have e2 : n = 2 ^ b * (2 * m + 1) + 0 := by rw [Nat.add_zero]; exact e
  rw [Nat.testBit_and, e1, Nat.testBit_two_pow_mul_add _ (by omega), Nat.testBit_two_pow_sub_one]
  rcases Nat.lt_trichotomy i b with q | q | q
  · rw [h.2 i q, Bool.false_and, Bool.false_and]
  · rw [q, if_neg (by omega), Nat.sub_self, decide_eq_true rfl]
    rw [show (2 * m).testBit 0 = false by rw [Nat.testBit_zero]; exact decide_eq_false (by omega)]
    rw [Bool.and_false]
    rw [Bool.not_true, Bool.and_false]
  · rw [if_neg (by omega), decide_eq_false (show ¬ i = b by omega), Bool.not_false, Bool.and_true]
    have e3 : n.testBit i = (2 * m + 1).testBit (i - b) := by
      rw [e2, Nat.testBit_two_pow_mul_add _ hp, if_neg (by omega)]
    obtain ⟨j, hj⟩ : ∃ j, i - b = j + 1 := ⟨i - b - 1, by omega⟩
    rw [e3, hj, Nat.testBit_succ, Nat.testBit_succ, show (2 * m + 1) / 2 = m by omega, show 2 * m / 2 = m by omega, Bool.and_self]
theorem lw_rs {a t b : Nat} (ha : a < 2 ^ 64) (h : lwb (rs a t) b) : t ≤ b ∧ b < 64 ∧ a.testBit b = true ∧ ∀ i, t ≤ i → i < b → a.testBit i = false := by
  have h1 := h.1
  rw [rs_bit ha, Bool.and_eq_true, decide_eq_true_iff] at h1
  refine ⟨h1.1, ?_, h1.2, ?_⟩
  · by_cases q : b < 64
    · exact q
    · have := h1.2
      rw [tb64 ha (by omega)] at this
      cases this
  · intro i h2 h3
    have := h.2 i h3
    rw [rs_bit ha, decide_eq_true h2, Bool.true_and] at this
    exact this
theorem rs_clr {a t b : Nat} (ha : a < 2 ^ 64) (h : lwb (rs a t) b) : lN (rs a t) &&& (lN (rs a t) - lN 1) = lN (rs a (b + 1)) := by
  obtain ⟨h1, h2, h3, h4⟩ := lw_rs ha h
  have hp : 1 ≤ rs a t := by
    apply Nat.pos_of_ne_zero
    intro z
    have := h.1
    rw [z, Nat.zero_testBit] at this
    cases this
  rw [lN_sub hp, fb_andL]
  congr 1
  apply Nat.eq_of_testBit_eq
  intro i
  rw [clr_low h, rs_bit ha, rs_bit ha]
  rcases Nat.lt_trichotomy i b with q | q | q
  · rw [decide_eq_false (show ¬ b + 1 ≤ i by omega), Bool.false_and]
    by_cases z : t ≤ i
    · rw [h4 i z q, Bool.and_false, Bool.false_and]
    · rw [decide_eq_false z, Bool.false_and, Bool.false_and]
  · rw [q, decide_eq_true rfl, decide_eq_false (show ¬ b + 1 ≤ b by omega), Bool.not_true, Bool.and_false, Bool.false_and]
  · rw [decide_eq_true (show t ≤ i by omega), decide_eq_true (show b + 1 ≤ i by omega), decide_eq_false (show ¬ i = b by omega), Bool.not_false, Bool.and_true]
theorem rs_z {a t : Nat} (ha : a < 2 ^ 64) (h : rs a t = 0) : ∀ i, t ≤ i → a.testBit i = false := by
  intro i hi
  have := rs_bit (a := a) (t := t) (i := i) ha
  rw [h, Nat.zero_testBit, decide_eq_true hi, Bool.true_and] at this
  exact this.symm
theorem rs_64 {a t : Nat} (ha : a < 2 ^ 64) (h : 64 ≤ t) : rs a t = 0 := by
  apply Nat.eq_of_testBit_eq
  intro i
  rw [rs_bit ha, Nat.zero_testBit]
  by_cases q : t ≤ i
  · rw [tb64 ha (by omega), Bool.and_false]
  · rw [decide_eq_false q, Bool.false_and]
theorem ct_gap {p : Nat → Bool} {m : Nat} : ∀ n, (∀ i, m ≤ i → i < m + n → p i = false) → fb_ct p (m + n) = fb_ct p m
  | 0, _ => rfl
  | n + 1, h => by
    rw [← Nat.add_assoc, fb_ct_succ, ct_gap n (fun i h1 h2 => h i h1 (by omega)), h (m + n) (by omega) (by omega)]
    rfl
theorem ct_gap2 {p : Nat → Bool} {m n : Nat} (h : m ≤ n) (h2 : ∀ i, m ≤ i → i < n → p i = false) : fb_ct p n = fb_ct p m := by
  have := ct_gap (p := p) (m := m) (n - m) (fun i h3 h4 => h2 i h3 (by omega))
  rwa [show m + (n - m) = n by omega] at this
/-- at is the first that fits, if any does -/
def FI (p : Nat → Bool) (n : Nat) (v : Int32) : Prop := fb_ct p n ≠ 0 → ∃ a, a < n ∧ p a = true ∧ (∀ j, j < a → p j = false) ∧ v = nI a
theorem FI_gap {p : Nat → Bool} {m n : Nat} {v : Int32} (h : m ≤ n) (h2 : ∀ i, m ≤ i → i < n → p i = false) (hF : FI p m v) : FI p n v := by
  intro hz
  rw [ct_gap2 h h2] at hz
  obtain ⟨a, h3, h4⟩ := hF hz
  exact ⟨a, by omega, h4⟩
theorem FI_s {p : Nat → Bool} {n : Nat} {v : Int32} (hp : p n = true) (hF : FI p n v) : FI p (n + 1) (if fb_ct p n = 0 then nI n else v) := by
  intro _
  by_cases q : fb_ct p n = 0
  · rw [if_pos q]
    exact ⟨n, by omega, hp, fb_ct_zero.1 q, rfl⟩
  · rw [if_neg q]
    obtain ⟨a, h3, h4⟩ := hF q
    exact ⟨a, by omega, h4⟩
noncomputable def fits (F : Nat → Nat) (op o1 o2 : Nat) (lk : Option Nat) (i : Nat) : Bool := @decide (sbs op (F i) ∧ ¬ sbs o1 (F i) ∧ ¬ sbs o2 (F i) ∧ ∀ c, lk = some c → (F i).testBit c = false) (Classical.propDecidable _)
theorem fits_t {F : Nat → Nat} {op o1 o2 i : Nat} {lk : Option Nat} : fits F op o1 o2 lk i = true ↔ (sbs op (F i) ∧ ¬ sbs o1 (F i) ∧ ¬ sbs o2 (F i) ∧ ∀ c, lk = some c → (F i).testBit c = false) := @decide_eq_true_iff _ (Classical.propDecidable _)
theorem fits_f {F : Nat → Nat} {op o1 o2 i : Nat} {lk : Option Nat} (h : ¬ (sbs op (F i) ∧ ¬ sbs o1 (F i) ∧ ¬ sbs o2 (F i) ∧ ∀ c, lk = some c → (F i).testBit c = false)) : fits F op o1 o2 lk i = false := @decide_eq_false _ (Classical.propDecidable _) h
def lkI : Option Nat → Int32
  | none => -1
  | some c => nI c
theorem orU_sub {F : Nat → Nat} {i : Nat} : ∀ n, i < n → sbs (F i) (orU F n)
  | 0, h => absurd h (by omega)
  | n + 1, h => by
    intro k hk
    show (orU F n ||| F n).testBit k = true
    rw [Nat.testBit_or, Bool.or_eq_true]
    by_cases q : i = n
    · right; rw [← q]; exact hk
    · left; exact orU_sub n (by omega) k hk
theorem mxU_sub {F : Nat → Nat} {i : Nat} : ∀ n, i < n → pcN (F i) ≤ mxU F n
  | 0, h => absurd h (by omega)
  | n + 1, h => by
    show pcN (F i) ≤ max (mxU F n) (pcN (F n))
    by_cases q : i = n
    · rw [q]; omega
    · have := mxU_sub (F := F) n (show i < n by omega)
      omega
theorem pcN_sub {a b : Nat} (h : sbs a b) : pcN a ≤ pcN b := fb_ct_sub (fun k _ => h k)
theorem hv_bit {F : Nat → Nat} {n c w b : Nat} (hb : b < 64) : (hv F n c w).testBit b = (decide (64 * w + b < n) && (F (64 * w + b)).testBit c) := by
  unfold hv
  rw [bl_bit, decide_eq_true hb, Bool.true_and]
