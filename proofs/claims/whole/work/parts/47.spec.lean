/-! ===== the least passing: what both sides reckon ===== -/
def sOn2 (S : Nat → Nat → Nat) (f b : Nat) : Bool := decide (b < 12) && sOn S f b
theorem sOn2_lt {S : Nat → Nat → Nat} {f b : Nat} (hb : b < 12) : sOn2 S f b = sOn S f b := by unfold sOn2; rw [decide_eq_true hb, Bool.true_and]
def sd (c f t : Nat) : Nat := c - dg 6 c f * 4 ^ (5 - f) + t * 4 ^ (5 - f)
theorem six {P : Nat → Prop} (h0 : P 0) (h1 : P 1) (h2 : P 2) (h3 : P 3) (h4 : P 4) (h5 : P 5) : ∀ f, f < 6 → P f := fun f hf => match f, hf with
  | 0, _ => h0
  | 1, _ => h1
  | 2, _ => h2
  | 3, _ => h3
  | 4, _ => h4
  | 5, _ => h5
  | n + 6, hf => absurd hf (by omega)
theorem dg_0 (c : Nat) : dg 6 c 0 = c / 1024 % 4 := rfl
theorem dg_1 (c : Nat) : dg 6 c 1 = c / 256 % 4 := rfl
theorem dg_2 (c : Nat) : dg 6 c 2 = c / 64 % 4 := rfl
theorem dg_3 (c : Nat) : dg 6 c 3 = c / 16 % 4 := rfl
theorem dg_4 (c : Nat) : dg 6 c 4 = c / 4 % 4 := rfl
theorem dg_5 (c : Nat) : dg 6 c 5 = c / 1 % 4 := rfl
theorem sd_lt {c f t : Nat} (hc : c < 4096) (hf : f < 6) (ht : t < 4) : sd c f t < 4096 := by
  revert hf f
  apply six <;> (unfold sd; simp only [dg_0, dg_1, dg_2, dg_3, dg_4, dg_5, Nat.reduceSub, Nat.reducePow]; omega)
theorem dg_sd {c f t j : Nat} (hc : c < 4096) (hf : f < 6) (ht : t < 4) (hj : j < 6) : dg 6 (sd c f t) j = if j = f then t else dg 6 c j := by
  revert hf f
  apply six <;> (revert hj j; apply six <;> (unfold sd; simp only [dg_0, dg_1, dg_2, dg_3, dg_4, dg_5, Nat.reduceSub, Nat.reducePow, if_true, if_false, Nat.reduceEqDiff]; omega))
theorem dg_ext {c e : Nat} (hc : c < 4096) (he : e < 4096) (h : ∀ j, j < 6 → dg 6 c j = dg 6 e j) : c = e := by
  have h0 := h 0 (by decide)
  have h1 := h 1 (by decide)
  have h2 := h 2 (by decide)
  have h3 := h 3 (by decide)
  have h4 := h 4 (by decide)
  have h5 := h 5 (by decide)
  simp only [dg_0, dg_1, dg_2, dg_3, dg_4, dg_5] at h0 h1 h2 h3 h4 h5
  omega
theorem sd_same {c f : Nat} (hc : c < 4096) (hf : f < 6) : sd c f (dg 6 c f) = c := by
  apply dg_ext (sd_lt hc hf dg_lt) hc
  intro j hj
  rw [dg_sd hc hf dg_lt hj]
  by_cases q : j = f
  · rw [if_pos q, q]
  · rw [if_neg q]
def psv (S : Nat → Nat → Nat) (LF : aLF) (f b h t : Nat) : Nat := if (sOn2 S f b && sOn2 S f (b + 1)) = true ∧ h ≠ t then tl LF 1 (env S f (b + 1) h t) 9 1 else 0
theorem tl_le {LF : aLF} {head : Nat} {E : Nat → Int} {most w : Nat} (h : w ≤ most) : tl LF head E most w ≤ most := by
  unfold tl clp
  split
  · exact h
  · omega
theorem psv_le (S : Nat → Nat → Nat) (LF : aLF) (f b h t : Nat) : psv S LF f b h t ≤ 9 := by
  unfold psv
  split
  · exact tl_le (by decide)
  · omega
abbrev aM : Type := Nat → Nat × Nat
def mt (M : aM) (pas : Nat → Nat) (c f : Nat) : Nat → Nat × Nat
  | 0 => (1000000, 0)
  | n + 1 => if (M (sd c f n)).1 < 1000000 ∧ (M (sd c f n)).1 + pas n ≤ (mt M pas c f n).1 then ((M (sd c f n)).1 + pas n, (if (M (sd c f n)).1 + pas n < (mt M pas c f n).1 then 0 else (mt M pas c f n).2) + (M (sd c f n)).2) else mt M pas c f n
def bk1 (S : Nat → Nat → Nat) (LF : aLF) (b f : Nat) (M : aM) : aM := fun c =>
  (if sOn2 S f b = true ∨ dg 6 c f = 0 then (mt M (psv S LF f b (dg 6 c f)) c f (if sOn2 S f (b + 1) then 4 else 1)).1 else 1000000, min 1000000000 (mt M (psv S LF f b (dg 6 c f)) c f (if sOn2 S f (b + 1) then 4 else 1)).2)
def bkS (S : Nat → Nat → Nat) (LF : aLF) (b : Nat) (M : aM) : Nat → aM
  | 0 => M
  | f + 1 => bk1 S LF b f (bkS S LF b M f)
def isB (S : Nat → Nat → Nat) (LF : aLF) (b c : Nat) : Bool := isH (fun h s => canS S LF h b s) (S 10 2) (sOns S b) c
def dpS (S : Nat → Nat → Nat) (LF : aLF) : Nat → aM
  | 0 => fun _ => (0, 1)
  | k + 1 => fun c => if isB S LF (11 - k) c then bkS S LF (11 - k) (dpS S LF k) 6 c else (1000000, 0)
/-- costs are small, or there is none -/
def FB (n : Nat) (M : aM) : Prop := ∀ c, c < 4096 → ((M c).1 = 1000000 ∨ (M c).1 ≤ n) ∧ (M c).2 ≤ 1000000000
theorem mt_b {M : aM} {pas : Nat → Nat} {c f n : Nat} (hM : FB n M) (hc : c < 4096) (hf : f < 6) (hn : n ≤ 900000) (hp : ∀ t, pas t ≤ 9) : ∀ k, k ≤ 4 → ((mt M pas c f k).1 = 1000000 ∧ (mt M pas c f k).2 = 0) ∨ ((mt M pas c f k).1 ≤ n + 9 ∧ (mt M pas c f k).2 ≤ k * 1000000000)
  | 0, _ => Or.inl ⟨rfl, rfl⟩
  | k + 1, hk => by
    have ih := mt_b hM hc hf hn hp k (by omega)
    have h := hM (sd c f k) (sd_lt hc hf (by omega))
    have h9 := hp k
    unfold mt
    by_cases q : (M (sd c f k)).1 < 1000000 ∧ (M (sd c f k)).1 + pas k ≤ (mt M pas c f k).1
    · rw [if_pos q]
      right
      refine ⟨by show (M (sd c f k)).1 + pas k ≤ n + 9; omega, ?_⟩
      show (if _ then 0 else (mt M pas c f k).2) + (M (sd c f k)).2 ≤ _
      split <;> omega
    · rw [if_neg q]
      rcases ih with ih | ih
      · exact Or.inl ih
      · exact Or.inr ⟨ih.1, by omega⟩
theorem bk1_b {S : Nat → Nat → Nat} {LF : aLF} {b f n : Nat} {M : aM} (hM : FB n M) (hf : f < 6) (hn : n ≤ 900000) : FB (n + 9) (bk1 S LF b f M) := by
  intro c hc
  have h := mt_b (pas := psv S LF f b (dg 6 c f)) hM hc hf hn (psv_le S LF f b _) (if sOn2 S f (b + 1) then 4 else 1) (by split <;> omega)
  refine ⟨?_, Nat.min_le_left _ _⟩
  show (if sOn2 S f b = true ∨ dg 6 c f = 0 then _ else 1000000) = 1000000 ∨ (if sOn2 S f b = true ∨ dg 6 c f = 0 then _ else 1000000) ≤ n + 9
  split
  · rcases h with h | h
    · exact Or.inl h.1
    · exact Or.inr h.1
  · exact Or.inl rfl
theorem bkS_b {S : Nat → Nat → Nat} {LF : aLF} {b n : Nat} {M : aM} (hM : FB n M) (hn : n ≤ 10000) : ∀ f, f ≤ 6 → FB (n + 9 * f) (bkS S LF b M f)
  | 0, _ => hM
  | f + 1, hf => by
    have ih := bkS_b (S := S) (LF := LF) (b := b) hM hn f (by omega)
    have := bk1_b (S := S) (LF := LF) (b := b) (f := f) ih (by omega) (by omega)
    rw [show n + 9 * (f + 1) = n + 9 * f + 9 by omega]
    exact this
theorem dpS_b {S : Nat → Nat → Nat} {LF : aLF} : ∀ k, k ≤ 12 → FB (54 * k) (dpS S LF k)
  | 0, _ => fun c _ => ⟨Or.inr (Nat.le_refl 0), by show 1 ≤ _; omega⟩
  | k + 1, hk => by
    intro c hc
    have := bkS_b (S := S) (LF := LF) (b := 11 - k) (dpS_b (S := S) (LF := LF) k (by omega)) (by omega) 6 (Nat.le_refl _) c hc
    unfold dpS
    split
    · rw [show 54 * (k + 1) = 54 * k + 9 * 6 by omega]
      exact this
    · exact ⟨Or.inl rfl, Nat.zero_le _⟩
/-! the reference's arrays -/
def Xd (I I' : Nat → Nat → Int32) : Prop := ∀ a k, ¬ (104 ≤ a ∧ a ≤ 112) → ¬ (a = 89 ∧ (k = 31 ∨ k = 34)) → I' a k = I a k
theorem Xd_rf {I : Nat → Nat → Int32} : Xd I I := fun _ _ _ _ => rfl
theorem Xd_tr {I I2 I3 : Nat → Nat → Int32} (h : Xd I I2) (h2 : Xd I2 I3) : Xd I I3 := fun a k h3 h4 => (h2 a k h3 h4).trans (h a k h3 h4)
theorem Xd_h {I I2 : Nat → Nat → Int32} (h : Xh I I2) : Xd I I2 := fun a k h3 h4 => h a k (by omega) (by omega)
theorem Xd_u {I I2 : Nat → Nat → Int32} {r k : Nat} {z : Int32} (hr : 104 ≤ r ∧ r ≤ 112) (h : Xd I I2) : Xd I (u2 I2 r k z) := fun a j h3 h4 => by
  rw [u2_a (by omega)]
  exact h a j h3 h4
theorem Xd_r {I I2 : Nat → Nat → Int32} (h : Xd I I2) {a : Nat} (h1 : ¬ (104 ≤ a ∧ a ≤ 112)) (h2 : a ≠ 89) : I2 a = I a := funext (fun k => h a k h1 (by omega))
theorem nandw {s a : Nat} (hs : s < 4096) : nI s &&& (nI a ^^^ (-1 : Int32)) = nI (s &&& (4095 ^^^ a)) := by
  apply b_ext
  intro i hi
  rw [b_and, b_xor, b_m1 i hi, bt_nI hi, bt_nI hi, bt_nI hi, Nat.testBit_and, Nat.testBit_xor, show (4095 : Nat) = 2 ^ 12 - 1 from rfl, Nat.testBit_two_pow_sub_one]
  by_cases q : i < 12
  · rw [decide_eq_true q]
    cases s.testBit i <;> cases a.testBit i <;> rfl
  · have : s.testBit i = false := Nat.testBit_lt_two_pow (Nat.lt_of_lt_of_le (show s < 2 ^ 12 from hs) (Nat.pow_le_pow_right (by decide) (by omega)))
    rw [this]; rfl
theorem sdB : aB (fun f => aB (fun t => aB (fun i => aB (fun j => decide (((64 * i + j) &&& (4095 ^^^ (3 <<< (2 * (5 - f))))) ||| (t <<< (2 * (5 - f))) = sd (64 * i + j) f t)) 64) 64) 4) 6 = true := by decide +kernel
theorem sdI {c f t : Nat} (hc : c < 4096) (hf : f < 6) (ht : t < 4) : (nI c &&& ((nI 3 <<< (nI (2 * (5 - f)) &&& 31)) ^^^ (-1 : Int32))) ||| (nI t <<< (nI (2 * (5 - f)) &&& 31)) = nI (sd c f t) := by
  have h := aB_iff.1 (aB_iff.1 (aB_iff.1 (aB_iff.1 sdB f hf) t ht) (c / 64) (by omega)) (c % 64) (by omega)
  rw [show 64 * (c / 64) + c % 64 = c by omega] at h
  rw [nshl (by omega), nshl (by omega), nandw hc, nor, of_decide_eq_true h]
theorem hIn2 {c f : Nat} (hc : c < 4096) (hf : f < 6) : (nI c >>> (nI (2 * (5 - f)) &&& 31)) &&& nI 3 = nI (dg 6 c f) := by
  have := hIn hc hf
  rw [nsub (by omega), nmul] at this
  exact this
