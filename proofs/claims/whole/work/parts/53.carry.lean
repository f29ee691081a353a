/-! ===== the Planner: from a beat back to the one ahead ===== -/
def pat (S : Nat → Nat → Nat) (b f j : Nat) : Bool := if j < f then sOn2 S j b else sOn2 S j (b + 1)
def o2 (S : Nat → Nat → Nat) (b : Nat) : Nat := bl (fun f => sOn2 S f b) 6
theorem o2_lt (S : Nat → Nat → Nat) (b : Nat) : o2 S b < 64 := bl_lt _ 6
theorem o2_bit {S : Nat → Nat → Nat} {b f : Nat} : (o2 S b).testBit f = (decide (f < 6) && sOn2 S f b) := bl_bit _ 6 f
theorem o2_ons {S : Nat → Nat → Nat} (hB : SB S) {b : Nat} (hb : b < 12) : o2 S b = sOns S b := by
  rw [ons_bl hB]
  exact bl_cong 6 (fun i _ => sOn2_lt hb)
theorem o2_12 {S : Nat → Nat → Nat} : o2 S 12 = 0 := by
  have : ∀ f, sOn2 S f 12 = false := fun f => by unfold sOn2; rw [decide_eq_false (by omega), Bool.false_and]
  unfold o2
  rw [bl_cong 6 (fun i _ => this i)]
  rfl
theorem ct_mr {p : Nat → Bool} {k : Nat} : ∀ j, (∀ i, k ≤ i → i < k + j → p i = false) → fb_ct p (k + j) = fb_ct p k
  | 0, _ => rfl
  | j + 1, h => by
    rw [← Nat.add_assoc, fb_ct_succ, ct_mr j (fun i h1 h2 => h i h1 (by omega)), h (k + j) (by omega) (by omega)]
    rfl
theorem o2_pl {S : Nat → Nat → Nat} {hp hk b f : Nat} (hf : f < 6) : bas hp hk ^ pcI (nI (o2 S b >>> (f + 1))) = pl hp hk (fun j => sOn2 S j b) (5 - f) ∧ pcI (nI (o2 S b >>> (f + 1))) ≤ 6 := by
  have h64 : o2 S b >>> (f + 1) < 64 := Nat.lt_of_le_of_lt (Nat.shiftRight_le _ _) (o2_lt S b)
  rw [pc6 h64]
  have e : fb_ct (o2 S b >>> (f + 1)).testBit 6 = fb_ct (fun i => sOn2 S (6 - (5 - f) + i) b) (5 - f) := by
    have e1 : ∀ i, (o2 S b >>> (f + 1)).testBit i = (decide (f + 1 + i < 6) && sOn2 S (f + 1 + i) b) := fun i => by rw [Nat.testBit_shiftRight, o2_bit]
    have e2 := ct_mr (p := (o2 S b >>> (f + 1)).testBit) (k := 5 - f) (f + 1) (fun i h1 h2 => by rw [e1, decide_eq_false (by omega), Bool.false_and])
    rw [show 5 - f + (f + 1) = 6 by omega] at e2
    rw [e2]
    apply fb_ct_cong
    intro i hi
    rw [e1, decide_eq_true (by omega), Bool.true_and, show 6 - (5 - f) + i = f + 1 + i by omega]
  rw [e]
  exact ⟨(pl_pow (fun j => sOn2 S j b) (5 - f) (by omega)).symm, Nat.le_trans (fb_ct_le _ _) (by omega)⟩
theorem o2_pw {S : Nat → Nat → Nat} {hp hk b : Nat} : bas hp hk ^ pcI (nI (o2 S b)) = pwm hp hk (fun j => sOn2 S j b) 6 ∧ pcI (nI (o2 S b)) ≤ 6 := by
  rw [pc6 (o2_lt S b)]
  have e : fb_ct (o2 S b).testBit 6 = fb_ct (fun j => sOn2 S j b) 6 := fb_ct_cong (fun k hk => by rw [o2_bit, decide_eq_true hk, Bool.true_and])
  rw [e, ← pw_pow]
  exact ⟨rfl, fb_ct_le _ 6⟩
theorem pw_split {hp hk : Nat} (p : Nat → Bool) : ∀ j, j ≤ 6 → pwm hp hk p 6 = pwm hp hk p (6 - j) * pl hp hk p j
  | 0, _ => by show _ = pwm hp hk p 6 * 1; rw [Nat.mul_one]
  | j + 1, hj => by
    rw [pw_split p j (by omega), show 6 - j = (5 - j) + 1 by omega, show 6 - (j + 1) = 5 - j by omega, pl_s]
    show (if p (5 - j) then pwm hp hk p (5 - j) * bas hp hk else pwm hp hk p (5 - j)) * _ = _
    cases p (5 - j)
    · rfl
    · show pwm hp hk p (5 - j) * bas hp hk * pl hp hk p j = pwm hp hk p (5 - j) * (pl hp hk p j * bas hp hk)
      rw [Nat.mul_assoc, Nat.mul_comm (bas hp hk)]
theorem fo_cong {V V2 : Nat → Nat × Nat} {c c2 : Nat → Nat} : ∀ k, (∀ y, y < k → V y = V2 y ∧ c y = c2 y) → fo V c k = fo V2 c2 k
  | 0, _ => rfl
  | k + 1, h => by
    unfold fo
    rw [fo_cong k (fun y hy => h y (by omega)), (h k (by omega)).1, (h k (by omega)).2]
theorem stp_far {p : Nat × Nat} {w : Nat} : stp p 1000000 w = p := by
  unfold stp
  rw [if_neg (by omega)]
theorem mt_s {M : aM} {pas : Nat → Nat} {c f k : Nat} (h : (M (sd c f k)).1 < 1000000 → (M (sd c f k)).1 + pas k < 1000000) : mt M pas c f (k + 1) = stp (mt M pas c f k) (if (M (sd c f k)).1 < 1000000 then (M (sd c f k)).1 + pas k else 1000000) (M (sd c f k)).2 := by
  show (if _ ∧ _ then _ else _) = _
  by_cases q : (M (sd c f k)).1 < 1000000
  · have h := h q
    rw [if_pos q]
    unfold stp
    by_cases q2 : (M (sd c f k)).1 + pas k ≤ (mt M pas c f k).1
    · rw [if_pos (show _ ∧ _ from ⟨q, q2⟩), if_pos (show (M (sd c f k)).1 + pas k < 1000000 ∧ (M (sd c f k)).1 + pas k ≤ (mt M pas c f k).1 from ⟨h, q2⟩)]
    · rw [if_neg (fun z => q2 z.2), if_neg (fun z => q2 z.2)]
  · rw [if_neg (fun z => q z.1), if_neg q, stp_far]
theorem mt_fo {M : aM} {pas : Nat → Nat} {c f hp hk : Nat} (hh : hp ≤ 3) (hs : ∀ t, t < 4 → (M (sd c f t)).1 < 1000000 → (M (sd c f t)).1 + pas t < 1000000) (hv : ∀ t, t < 4 → vh hp hk t = false → (M (sd c f t)).1 = 1000000) : mt M pas c f 4 = fo (fun y => M (sd c f (hO hp y))) (fun y => pas (hO hp y)) (bas hp hk) := by
  have s : ∀ k, k < 4 → mt M pas c f (k + 1) = stp (mt M pas c f k) (if (M (sd c f k)).1 < 1000000 then (M (sd c f k)).1 + pas k else 1000000) (M (sd c f k)).2 := fun k hk => mt_s (hs k hk)
  have n : ∀ k, k < 4 → vh hp hk k = false → mt M pas c f (k + 1) = mt M pas c f k := fun k hk hz => by
    rw [s k hk, hv k hk hz, if_neg (by omega), stp_far]
  have z0 : mt M pas c f 0 = (1000000, 0) := rfl
  have f0 : ∀ (V : Nat → Nat × Nat) (c : Nat → Nat), fo V c 0 = (1000000, 0) := fun _ _ => rfl
  have fs : ∀ (V : Nat → Nat × Nat) (c : Nat → Nat) k, fo V c (k + 1) = stp (fo V c k) (if (V k).1 < 1000000 then (V k).1 + c k else 1000000) (V k).2 := fun _ _ _ => rfl
  have hcase : hp = 0 ∨ hp = 1 ∨ hp = 2 ∨ hp = 3 := by omega
  by_cases q : 0 < hk
  · rcases hcase with rfl | rfl | rfl | rfl
    · rw [show bas 0 hk = 1 by unfold bas; rw [if_pos q], s 3 (by decide), n 2 (by decide) (by unfold vh; simp), n 1 (by decide) (by unfold vh; simp), n 0 (by decide) (by unfold vh; simp), z0, fs, f0]
      rfl
    · rw [show bas 1 hk = 2 by unfold bas; rw [if_pos q], s 3 (by decide), n 2 (by decide) (by unfold vh; simp), n 1 (by decide) (by unfold vh; simp), s 0 (by decide), z0, fs, fs, f0]
      rfl
    · rw [show bas 2 hk = 3 by unfold bas; rw [if_pos q], s 3 (by decide), n 2 (by decide) (by unfold vh; simp), s 1 (by decide), s 0 (by decide), z0, fs, fs, fs, f0]
      rfl
    · rw [show bas 3 hk = 4 by unfold bas; rw [if_pos q], s 3 (by decide), s 2 (by decide), s 1 (by decide), s 0 (by decide), z0, fs, fs, fs, fs, f0]
      rfl
  · have v3 : ∀ hp, hp ≤ 3 → vh hp hk 3 = false := fun hp h => by unfold vh; rw [decide_eq_false (by omega), decide_eq_false q]; rfl
    rcases hcase with rfl | rfl | rfl | rfl
    · rw [show bas 0 hk = 0 by unfold bas; rw [if_neg q], n 3 (by decide) (v3 _ (by decide)), n 2 (by decide) (by unfold vh; simp), n 1 (by decide) (by unfold vh; simp), n 0 (by decide) (by unfold vh; simp), z0, f0]
    · rw [show bas 1 hk = 1 by unfold bas; rw [if_neg q], n 3 (by decide) (v3 _ (by decide)), n 2 (by decide) (by unfold vh; simp), n 1 (by decide) (by unfold vh; simp), s 0 (by decide), z0, fs, f0]
      rfl
    · rw [show bas 2 hk = 2 by unfold bas; rw [if_neg q], n 3 (by decide) (v3 _ (by decide)), n 2 (by decide) (by unfold vh; simp), s 1 (by decide), s 0 (by decide), z0, fs, fs, f0]
      rfl
    · rw [show bas 3 hk = 3 by unfold bas; rw [if_neg q], n 3 (by decide) (v3 _ (by decide)), s 2 (by decide), s 1 (by decide), s 0 (by decide), z0, fs, fs, fs, f0]
      rfl
theorem mt_far {M : aM} {pas : Nat → Nat} {c f : Nat} : ∀ k, (∀ t, t < k → (M (sd c f t)).1 = 1000000) → mt M pas c f k = (1000000, 0)
  | 0, _ => rfl
  | k + 1, h => by
    show (if _ ∧ _ then _ else _) = _
    rw [if_neg (fun z => by have := h k (by omega); omega), mt_far k (fun t ht => h t (by omega))]
/-- a holder that can't be: no cost -/
def IV (hp hk : Nat) (p : Nat → Bool) (M : aM) : Prop := ∀ c, c < 4096 → ∀ j, j < 6 → p j = true → vh hp hk (dg 6 c j) = false → (M c).1 = 1000000
theorem bk_inv {S : Nat → Nat → Nat} {LF : aLF} {hp hk b : Nat} {M : aM} (hM : IV hp hk (fun j => sOn2 S j (b + 1)) M) : ∀ f, f ≤ 6 → ∀ c, c < 4096 → ∀ j, f ≤ j → j < 6 → sOn2 S j (b + 1) = true → vh hp hk (dg 6 c j) = false → (bkS S LF b M f c).1 = 1000000
  | 0, _, c, hc, j, _, hj, h1, h2 => hM c hc j hj h1 h2
  | f + 1, hf, c, hc, j, hj, hj6, h1, h2 => by
    show (if sOn2 S f b = true ∨ dg 6 c f = 0 then (mt (bkS S LF b M f) (psv S LF f b (dg 6 c f)) c f (if sOn2 S f (b + 1) then 4 else 1)).1 else 1000000) = 1000000
    rw [mt_far]
    · split <;> rfl
    · intro t ht
      have ht4 : t < 4 := Nat.lt_of_lt_of_le ht (by split <;> omega)
      exact bk_inv hM f (by omega) (sd c f t) (sd_lt hc (by omega) ht4) j (by omega) hj6 h1 (by rw [dg_sd hc (by omega) ht4 hj6, if_neg (by omega)]; exact h2)
theorem isB_vh {S : Nat → Nat → Nat} (hB : SB S) {LF : aLF} {b c j : Nat} (h : isB S LF b c = true) (hj : j < 6) (ho : sOn S j b = true) : vh (S 10 2) (S 10 4) (dg 6 c j) = true := by
  unfold isB isH at h
  rw [Bool.and_eq_true, Bool.and_eq_true, Bool.and_eq_true, Bool.and_eq_true, Bool.and_eq_true] at h
  obtain ⟨⟨-, h2⟩, -, -, -, h3⟩ := h
  have hd := dg_lt (c := c) (f := j)
  have hbj : (sOns S b).testBit j = true := by rw [ons_bit hB hj]; exact ho
  rw [vh_iff]
  by_cases q : dg 6 c j < 3
  · exact Or.inl (of_decide_eq_true h2 j hj ⟨hbj, q⟩)
  · right
    refine ⟨by omega, ?_⟩
    have h3 : canS S LF 3 b (hset (sOns S b) 6 c 3) = true := h3
    unfold canS at h3
    rw [Bool.and_eq_true, if_pos rfl, decide_eq_true_iff] at h3
    have : 0 < fb_ct (hset (sOns S b) 6 c 3).testBit 6 := by
      rw [fb_ct_pos]
      refine ⟨j, hj, ?_⟩
      unfold hset
      rw [bl_bit, decide_eq_true hj, hbj, decide_eq_true (show dg 6 c j = 3 by omega)]
      rfl
    omega
theorem dp_inv {S : Nat → Nat → Nat} (hB : SB S) {LF : aLF} {k : Nat} (hk : k ≤ 12) : IV (S 10 2) (S 10 4) (fun j => sOn2 S j (12 - k)) (dpS S LF k) := by
  intro c hc j hj h1 h2
  have h1 : sOn2 S j (12 - k) = true := h1
  match k, hk with
  | 0, _ =>
    exfalso
    unfold sOn2 at h1
    rw [decide_eq_false (by omega), Bool.false_and] at h1
    cases h1
  | k + 1, hk =>
    show (if isB S LF (11 - k) c then _ else (1000000, 0)).1 = _
    rw [show 12 - (k + 1) = 11 - k by omega, sOn2_lt (by omega)] at h1
    rw [if_neg (fun z => by rw [isB_vh hB z hj h1] at h2; cases h2)]
def AR (n hp hk : Nat) (p : Nat → Bool) (A : Nat → Int64) (M : aM) : Prop := ∀ c, c < 4096 → vdm hp hk p 6 c = true → ER n (A (ixm hp hk p 6 c)) (M c)
theorem ix_f {hp hk : Nat} (p : Nat → Bool) {c f : Nat} (hf : f < 6) : ixm hp hk p 6 c = (if p f then ixm hp hk p f (c / 4 ^ (6 - f)) * bas hp hk + dO hp (dg 6 c f) else ixm hp hk p f (c / 4 ^ (6 - f))) * pl hp hk p (5 - f) + lw hp hk p c (5 - f) := by
  rw [ix_split p c (5 - f) (by omega), show 6 - (5 - f) = f + 1 by omega, ixm_s]
  have e1 : c / 4 ^ (5 - f) / 4 = c / 4 ^ (6 - f) := by rw [Nat.div_div_eq_div_mul, ← Nat.pow_succ, show (5 - f).succ = 6 - f by omega]
  have e2 : c / 4 ^ (5 - f) % 4 = dg 6 c f := by unfold dg; rw [show 6 - 1 - f = 5 - f by omega]
  rw [e1, e2]
