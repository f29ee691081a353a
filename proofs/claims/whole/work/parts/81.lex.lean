/-! ===== tokens ===== -/
def spc (B : Nat → Nat) (i : Nat) : Bool := decide (B i = 32)
def dgt (B : Nat → Nat) (i : Nat) : Bool := decide (48 ≤ B i ∧ B i ≤ 57)
def sml (B : Nat → Nat) (i : Nat) : Bool := decide (97 ≤ B i ∧ B i ≤ 122)
def rn (q : Nat → Bool) (n : Nat) : Nat → Nat → Nat
  | 0, p => p
  | k + 1, p => if p < n ∧ q p = true then rn q n k (p + 1) else p
def rN (q : Nat → Bool) (n p : Nat) : Nat := rn q n (n - p) p
theorem rN_y {q : Nat → Bool} {n p : Nat} (h : p < n) (h2 : q p = true) : rN q n p = rN q n (p + 1) := by
  unfold rN
  rw [show n - p = (n - (p + 1)) + 1 by omega]
  exact if_pos ⟨h, h2⟩
theorem rN_n {q : Nat → Bool} {n p : Nat} (h : ¬ (p < n ∧ q p = true)) : rN q n p = p := by
  unfold rN
  cases n - p with
  | zero => rfl
  | succ k => exact if_neg h
theorem rn_ge {q : Nat → Bool} {n : Nat} : ∀ k p, p ≤ rn q n k p ∧ (p ≤ n → rn q n k p ≤ n) ∧ ∀ i, p ≤ i → i < rn q n k p → i < n ∧ q i = true
  | 0, p => ⟨Nat.le_refl _, fun h => h, fun i h1 h2 => by have h2 : i < p := h2; omega⟩
  | k + 1, p => by
    by_cases h : p < n ∧ q p = true
    · have e : rn q n (k + 1) p = rn q n k (p + 1) := if_pos h
      have ih := rn_ge (q := q) (n := n) k (p + 1)
      rw [e]
      refine ⟨by omega, fun _ => ih.2.1 (by omega), fun i h1 h2 => ?_⟩
      by_cases z : i = p
      · rw [z]; exact h
      · exact ih.2.2 i (by omega) h2
    · have e : rn q n (k + 1) p = p := if_neg h
      rw [e]
      exact ⟨Nat.le_refl _, fun h => h, fun i h1 h2 => by omega⟩
theorem rN_ge {q : Nat → Bool} {n p : Nat} : p ≤ rN q n p := (rn_ge (n - p) p).1
theorem rN_le {q : Nat → Bool} {n p : Nat} (h : p ≤ n) : rN q n p ≤ n := (rn_ge (n - p) p).2.1 h
theorem rN_in {q : Nat → Bool} {n p i : Nat} (h1 : p ≤ i) (h2 : i < rN q n p) : i < n ∧ q i = true := (rn_ge (n - p) p).2.2 i h1 h2
theorem rn_end {q : Nat → Bool} {n : Nat} : ∀ k p, n - p ≤ k → ¬ (rn q n k p < n ∧ q (rn q n k p) = true)
  | 0, p => fun h z => by have z1 : p < n := z.1; omega
  | k + 1, p => fun h => by
    by_cases z : p < n ∧ q p = true
    · have e : rn q n (k + 1) p = rn q n k (p + 1) := if_pos z
      rw [e]
      exact rn_end k (p + 1) (by omega)
    · have e : rn q n (k + 1) p = p := if_neg z
      rw [e]
      exact z
theorem rN_end {q : Nat → Bool} {n p : Nat} : ¬ (rN q n p < n ∧ q (rN q n p) = true) := rn_end (n - p) p (Nat.le_refl _)
theorem rN_gt {q : Nat → Bool} {n p : Nat} : p < rN q n p ↔ p < n ∧ q p = true := by
  constructor
  · intro h
    exact rN_in (Nat.le_refl _) h
  · intro h
    rw [rN_y h.1 h.2]
    exact rN_ge
def WD : List (List Nat) := ["figure".toList.map Char.toNat, "beat".toList.map Char.toNat, "helper".toList.map Char.toNat, "other".toList.map Char.toNat, "x".toList.map Char.toNat, "y".toList.map Char.toNat, "deep".toList.map Char.toNat, "sticks".toList.map Char.toNat, "to".toList.map Char.toNat, "at".toList.map Char.toNat, "off".toList.map Char.toNat, "pass".toList.map Char.toNat, "slip".toList.map Char.toNat, "bars".toList.map Char.toNat, "if".toList.map Char.toNat, "or".toList.map Char.toNat, "and".toList.map Char.toNat, "not".toList.map Char.toNat]
def wl (j : Nat) : Nat := (WD.getD j []).length
def wc (j i : Nat) : Nat := (WD.getD j []).getD i 0
def wst : Nat → Nat
  | 0 => 0
  | j + 1 => wst j + wl j + 1
def mtw (B : Nat → Nat) (s e j : Nat) : Prop := e = s + wl j ∧ ∀ i, i < wl j → B (s + i) = wc j i
noncomputable def wdF (B : Nat → Nat) (s e : Nat) : Nat → Nat → Nat
  | 0, _ => 258
  | k + 1, j => @ite _ (mtw B s e j) (Classical.propDecidable _) (259 + j) (wdF B s e k (j + 1))
theorem wdF_y {B : Nat → Nat} {s e k j : Nat} (h : mtw B s e j) : wdF B s e (k + 1) j = 259 + j := @if_pos _ (Classical.propDecidable _) h _ _ _
theorem wdF_n {B : Nat → Nat} {s e k j : Nat} (h : ¬ mtw B s e j) : wdF B s e (k + 1) j = wdF B s e k (j + 1) := @if_neg _ (Classical.propDecidable _) h _ _ _
theorem wd_len : ∀ j : Fin 18, 1 ≤ wl j.val ∧ wl j.val ≤ 7 := by decide +kernel
theorem wd_low : ∀ j : Fin 18, ∀ i : Fin 7, i.val < wl j.val → 97 ≤ wc j.val i.val ∧ wc j.val i.val ≤ 122 ∧ a_words.getD (wst j.val + i.val) 0 = wc j.val i.val := by decide +kernel
theorem wd_sp : ∀ j : Fin 18, a_words.getD (wst j.val + wl j.val) 0 = 32 := by decide +kernel
theorem wd_all : wst 18 = 80 ∧ a_words.length = 80 := by decide +kernel
theorem wd_mono : ∀ j : Fin 18, wst j.val + wl j.val < 80 := by decide +kernel
/-- numbers of words: none is another's -/
def hf (F : Nat → Nat) : Nat → Nat
  | 0 => 0
  | k + 1 => hf F k * 32 + F k
theorem hf_inj {F G : Nat → Nat} : ∀ k l, (∀ i, i < k → 1 ≤ F i ∧ F i ≤ 31) → (∀ i, i < l → 1 ≤ G i ∧ G i ≤ 31) → hf F k = hf G l → k = l ∧ ∀ i, i < k → F i = G i
  | 0, 0, _, _, _ => ⟨rfl, fun i h => absurd h (by omega)⟩
  | 0, l + 1, _, hG, e => by
    have := hG l (by omega)
    have e : 0 = hf G l * 32 + G l := e
    omega
  | k + 1, 0, hF, _, e => by
    have := hF k (by omega)
    have e : hf F k * 32 + F k = 0 := e
    omega
  | k + 1, l + 1, hF, hG, e => by
    have h1 := hF k (by omega)
    have h2 := hG l (by omega)
    have e : hf F k * 32 + F k = hf G l * 32 + G l := e
    have ih := hf_inj k l (fun i hi => hF i (by omega)) (fun i hi => hG i (by omega)) (by omega)
    refine ⟨by omega, fun i hi => ?_⟩
    by_cases z : i = k
    · rw [z]
      have : F k = G l := by omega
      rw [this, ih.1]
    · exact ih.2 i (by omega)
theorem hf_lt {F : Nat → Nat} : ∀ k, (∀ i, i < k → F i ≤ 31) → hf F k < 32 ^ k
  | 0, _ => Nat.zero_lt_one
  | k + 1, h => by
    have ih := hf_lt k (fun i hi => h i (by omega))
    have h1 := h k (by omega)
    show hf F k * 32 + F k < 32 ^ (k + 1)
    rw [Nat.pow_succ]
    omega
theorem hf_c {F G : Nat → Nat} : ∀ k, (∀ i, i < k → F i = G i) → hf F k = hf G k
  | 0, _ => rfl
  | k + 1, h => by
    show hf F k * 32 + F k = hf G k * 32 + G k
    rw [hf_c k (fun i hi => h i (by omega)), h k (by omega)]
/-- the class's number, the reference's -/
def vv (B : Nat → Nat) (s : Nat) : Nat → Nat
  | 0 => 0
  | k + 1 => min 100000 (vv B s k * 10 + (B (s + k) - 48))
def ww (B : Nat → Nat) (s : Nat) : Nat → Nat
  | 0 => 0
  | k + 1 => if 1000000 < ww B s k then ww B s k else ww B s k * 10 + (B (s + k) - 48)
theorem vv_ww (B : Nat → Nat) (s : Nat) : ∀ k, vv B s k = min 100000 (ww B s k)
  | 0 => rfl
  | k + 1 => by
    have ih := vv_ww B s k
    show min 100000 (vv B s k * 10 + (B (s + k) - 48)) = min 100000 (if 1000000 < ww B s k then ww B s k else ww B s k * 10 + (B (s + k) - 48))
    rw [ih]
    split <;> omega
theorem vv_le (B : Nat → Nat) (s k : Nat) : vv B s k ≤ 100000 := by rw [vv_ww]; omega
theorem ww_le {B : Nat → Nat} {s : Nat} (h : ∀ i, B i ≤ 255) : ∀ k, ww B s k ≤ 10001000
  | 0 => Nat.zero_le _
  | k + 1 => by
    have ih := ww_le (B := B) (s := s) h k
    have hb := h (s + k)
    show (if 1000000 < ww B s k then ww B s k else ww B s k * 10 + (B (s + k) - 48)) ≤ 10001000
    split <;> omega
def ls (B : Nat → Nat) (n p : Nat) : Nat := rN (spc B) n p
def de (B : Nat → Nat) (n p : Nat) : Nat := rN (dgt B) n (ls B n p)
def we (B : Nat → Nat) (n p : Nat) : Nat := rN (sml B) n (ls B n p)
noncomputable def tk (B : Nat → Nat) (n p : Nat) : Nat := if ls B n p < de B n p then 257 else if ls B n p < we B n p then wdF B (ls B n p) (we B n p) 18 0 else if ls B n p < n then B (ls B n p) else 256
def nv (B : Nat → Nat) (n p : Nat) : Nat := vv B (ls B n p) (de B n p - ls B n p)
def le (B : Nat → Nat) (n p : Nat) : Nat := if ls B n p < de B n p then de B n p else if ls B n p < we B n p then we B n p else if ls B n p < n then ls B n p + 1 else ls B n p
theorem le_le {B : Nat → Nat} {n p : Nat} (h : p ≤ n) : le B n p ≤ n := by
  have h1 : ls B n p ≤ n := rN_le h
  have h2 : de B n p ≤ n := rN_le h1
  have h3 : we B n p ≤ n := rN_le h1
  unfold le
  split
  · exact h2
  · split
    · exact h3
    · split
      · omega
      · exact h1
theorem wdF_r {B : Nat → Nat} {s e : Nat} : ∀ k j, 258 ≤ wdF B s e k j ∧ wdF B s e k j ≤ 258 + j + k
  | 0, j => ⟨Nat.le_refl _, by show 258 ≤ _; omega⟩
  | k + 1, j => by
    by_cases h : mtw B s e j
    · rw [wdF_y h]; omega
    · rw [wdF_n h]
      have := wdF_r (B := B) (s := s) (e := e) k (j + 1)
      omega
theorem tk_le {B : Nat → Nat} {n p : Nat} (h : ∀ i, B i ≤ 255) : tk B n p ≤ 276 := by
  have h1 := wdF_r (B := B) (s := ls B n p) (e := we B n p) 18 0
  have h2 := h (ls B n p)
  unfold tk
  split
  · omega
  · split
    · omega
    · split <;> omega
theorem le_gt {B : Nat → Nat} {n p : Nat} (h : ∀ i, B i ≤ 255) (ht : tk B n p ≠ 256) : p < le B n p ∧ ls B n p < n := by
  have h0 : p ≤ ls B n p := rN_ge
  have h1 := wdF_r (B := B) (s := ls B n p) (e := we B n p) 18 0
  have h2 := h (ls B n p)
  unfold tk at ht
  unfold le
  by_cases q1 : ls B n p < de B n p
  · rw [if_pos q1]
    exact ⟨by omega, (rN_gt.1 q1).1⟩
  · rw [if_neg q1] at ht ⊢
    by_cases q2 : ls B n p < we B n p
    · rw [if_pos q2]
      exact ⟨by omega, (rN_gt.1 q2).1⟩
    · rw [if_neg q2] at ht ⊢
      by_cases q3 : ls B n p < n
      · rw [if_pos q3]; exact ⟨by omega, q3⟩
      · rw [if_neg q3] at ht; exact absurd rfl ht
/-! of the reference -/
def sr (B : Nat → Nat) (n p : Nat) : Nat := if ls B n p < n then (if sml B (ls B n p) = true then 1 else if dgt B (ls B n p) = true then 2 else 3) else 0
def wth (B : Nat → Nat) (n p : Nat) : Int64 := if sr B n p = 1 then (if we B n p - ls B n p ≤ 10 then lN (hf (fun i => B (ls B n p + i) - 96) (we B n p - ls B n p)) else -1) else if sr B n p = 2 then lN (ww B (ls B n p) (de B n p - ls B n p)) else if sr B n p = 3 then lN (B (ls B n p)) else lN 0
theorem sd_x {B : Nat → Nat} {i : Nat} (h : sml B i = true) : dgt B i = false := by
  have := of_decide_eq_true h
  exact decide_eq_false (by omega)
theorem sr_1 {B : Nat → Nat} {n p : Nat} : sr B n p = 1 ↔ ls B n p < we B n p := by
  unfold sr we
  rw [rN_gt]
  by_cases q : ls B n p < n
  · rw [if_pos q]
    by_cases q2 : sml B (ls B n p) = true
    · rw [if_pos q2]; exact ⟨fun _ => ⟨q, q2⟩, fun _ => rfl⟩
    · rw [if_neg q2]
      refine ⟨fun z => ?_, fun z => absurd z.2 q2⟩
      split at z <;> cases z
  · rw [if_neg q]
    exact ⟨fun z => (by cases z), fun z => absurd z.1 q⟩
theorem sr_2 {B : Nat → Nat} {n p : Nat} : sr B n p = 2 ↔ ls B n p < de B n p := by
  unfold sr de
  rw [rN_gt]
  by_cases q : ls B n p < n
  · rw [if_pos q]
    by_cases q2 : sml B (ls B n p) = true
    · rw [if_pos q2, sd_x q2]
      exact ⟨fun z => (by cases z), fun z => (by cases z.2)⟩
    · rw [if_neg q2]
      by_cases q3 : dgt B (ls B n p) = true
      · rw [if_pos q3]; exact ⟨fun _ => ⟨q, q3⟩, fun _ => rfl⟩
      · rw [if_neg q3]; exact ⟨fun z => (by cases z), fun z => absurd z.2 q3⟩
  · rw [if_neg q]
    exact ⟨fun z => (by cases z), fun z => absurd z.1 q⟩
theorem sr_0 {B : Nat → Nat} {n p : Nat} : sr B n p = 0 ↔ ¬ ls B n p < n := by
  unfold sr
  by_cases q : ls B n p < n
  · rw [if_pos q]
    refine ⟨fun z => ?_, fun z => absurd q z⟩
    split at z
    · cases z
    · split at z <;> cases z
  · rw [if_neg q]; exact ⟨fun _ => q, fun _ => rfl⟩
theorem sr_le (B : Nat → Nat) (n p : Nat) : sr B n p ≤ 3 := by
  unfold sr
  split
  · split
    · decide
    · split <;> decide
  · decide
/-- which token, by the reference's words -/
theorem tk_end {B : Nat → Nat} {n p : Nat} (h : ∀ i, B i ≤ 255) : (sr B n p = 0) ↔ tk B n p = 256 := by
  rw [sr_0]
  have h1 := wdF_r (B := B) (s := ls B n p) (e := we B n p) 18 0
  have h2 := h (ls B n p)
  unfold tk
  by_cases q1 : ls B n p < de B n p
  · rw [if_pos q1]; exact ⟨fun z => absurd (rN_gt.1 q1).1 z, fun z => by cases z⟩
  · rw [if_neg q1]
    by_cases q2 : ls B n p < we B n p
    · rw [if_pos q2]; exact ⟨fun z => absurd (rN_gt.1 q2).1 z, fun z => by omega⟩
    · rw [if_neg q2]
      by_cases q3 : ls B n p < n
      · rw [if_pos q3]; exact ⟨fun z => absurd q3 z, fun z => by omega⟩
      · rw [if_neg q3]; exact ⟨fun _ => rfl, fun _ => q3⟩
theorem tk_dig {B : Nat → Nat} {n p : Nat} (h : ∀ i, B i ≤ 255) : (sr B n p = 2) ↔ tk B n p = 257 := by
  rw [sr_2]
  have h1 := wdF_r (B := B) (s := ls B n p) (e := we B n p) 18 0
  have h2 := h (ls B n p)
  unfold tk
  by_cases q1 : ls B n p < de B n p
  · rw [if_pos q1]; exact ⟨fun _ => rfl, fun _ => q1⟩
  · rw [if_neg q1]
    refine ⟨fun z => absurd z q1, fun z => ?_⟩
    by_cases q2 : ls B n p < we B n p
    · rw [if_pos q2] at z; omega
    · rw [if_neg q2] at z
      by_cases q3 : ls B n p < n
      · rw [if_pos q3] at z; omega
      · rw [if_neg q3] at z; cases z
theorem tk_sign {B : Nat → Nat} {n p c : Nat} (h : ∀ i, B i ≤ 255) (hc : c ≤ 255) (hc1 : ¬ (48 ≤ c ∧ c ≤ 57)) (hc2 : ¬ (97 ≤ c ∧ c ≤ 122)) : (sr B n p = 3 ∧ wth B n p = lN c) ↔ tk B n p = c := by
  have h1 := wdF_r (B := B) (s := ls B n p) (e := we B n p) 18 0
  have h2 := h (ls B n p)
  have e1 := sr_1 (B := B) (n := n) (p := p)
  have e2 := sr_2 (B := B) (n := n) (p := p)
  have e0 := sr_0 (B := B) (n := n) (p := p)
  have e3 := sr_le B n p
  unfold tk wth
  by_cases q1 : ls B n p < de B n p
  · rw [if_pos q1]
    have := e2.2 q1
    exact ⟨fun z => by omega, fun z => by omega⟩
  · rw [if_neg q1]
    by_cases q2 : ls B n p < we B n p
    · rw [if_pos q2]
      have := e1.2 q2
      exact ⟨fun z => by omega, fun z => by omega⟩
    · rw [if_neg q2]
      by_cases q3 : ls B n p < n
      · have s3 : sr B n p = 3 := by
          have a1 : ¬ sr B n p = 1 := fun z => q2 (e1.1 z)
          have a2 : ¬ sr B n p = 2 := fun z => q1 (e2.1 z)
          have a3 : ¬ sr B n p = 0 := fun z => (e0.1 z) q3
          omega
        rw [if_pos q3, s3, if_neg (by decide), if_neg (by decide), if_pos rfl, lN64 (Nat.lt_of_le_of_lt h2 (by decide)) (Nat.lt_of_le_of_lt hc (by decide))]
        exact ⟨fun z => z.2, fun z => ⟨rfl, z⟩⟩
      · rw [if_neg q3]
        have := e0.2 q3
        exact ⟨fun z => by omega, fun z => by omega⟩
def wh (j : Nat) : Nat := hf (fun i => wc j i - 96) (wl j)
theorem wdF_mt {B : Nat → Nat} {s e t : Nat} : ∀ k j, wdF B s e k j = 259 + t → j ≤ t ∧ mtw B s e t
  | 0, j, h => by have h : 258 = 259 + t := h; omega
  | k + 1, j, h => by
    by_cases q : mtw B s e j
    · rw [wdF_y q] at h
      have : t = j := by omega
      rw [this]; exact ⟨Nat.le_refl _, q⟩
    · rw [wdF_n q] at h
      have := wdF_mt k (j + 1) h
      exact ⟨by omega, this.2⟩
theorem wd_dis : ∀ j k : Fin 18, j ≠ k → wl j.val ≠ wl k.val ∨ ∃ i : Fin 7, i.val < wl j.val ∧ wc j.val i.val ≠ wc k.val i.val := by decide +kernel
theorem mt_u {B : Nat → Nat} {s e j k : Nat} (hj : j < 18) (hk : k < 18) (h1 : mtw B s e j) (h2 : mtw B s e k) : j = k := by
  apply Classical.byContradiction
  intro z
  rcases wd_dis ⟨j, hj⟩ ⟨k, hk⟩ (fun y => z (by cases y; rfl)) with w | ⟨i, w1, w2⟩
  · have a := h1.1
    have b := h2.1
    have w : wl j ≠ wl k := w
    omega
  · have a := h1.2 i.val w1
    have w0 : wl j = wl k := by have a := h1.1; have b := h2.1; omega
    have b := h2.2 i.val (by rw [← w0]; exact w1)
    exact w2 (a.symm.trans b)
theorem mt_wdF {B : Nat → Nat} {s e t : Nat} (ht : t < 18) (h : mtw B s e t) : ∀ k j, j ≤ t → t < j + k → j + k ≤ 18 → wdF B s e k j = 259 + t
  | 0, j, h1, h2, _ => by omega
  | k + 1, j, h1, h2, h3 => by
    by_cases q : mtw B s e j
    · rw [wdF_y q, mt_u (by omega) ht q h]
    · rw [wdF_n q]
      have : j ≠ t := fun z => q (by rw [z]; exact h)
      exact mt_wdF ht h k (j + 1) (by omega) (by omega) (by omega)
theorem tk_word {B : Nat → Nat} {n p j : Nat} (h : ∀ i, B i ≤ 255) (hj : j < 18) : (sr B n p = 1 ∧ wth B n p = lN (wh j)) ↔ tk B n p = 259 + j := by
  have h2 := h (ls B n p)
  have e1 := sr_1 (B := B) (n := n) (p := p)
  have hwl := wd_len ⟨j, hj⟩
  have hwl : 1 ≤ wl j ∧ wl j ≤ 7 := hwl
  have hwc : ∀ i, i < wl j → 97 ≤ wc j i ∧ wc j i ≤ 122 := fun i hi => by
    have := wd_low ⟨j, hj⟩ ⟨i, by omega⟩ hi
    exact ⟨this.1, this.2.1⟩
  unfold tk
  by_cases q2 : ls B n p < we B n p
  · have q1 : ¬ ls B n p < de B n p := by
      intro z
      have a := rN_gt.1 z
      have b := rN_gt.1 q2
      rw [sd_x b.2] at a
      cases a.2
    rw [if_neg q1, if_pos q2]
    have s1 := e1.2 q2
    have hin : ∀ i, i < we B n p - ls B n p → 97 ≤ B (ls B n p + i) ∧ B (ls B n p + i) ≤ 122 := fun i hi => by
      have := (rN_in (q := sml B) (n := n) (p := ls B n p) (i := ls B n p + i) (by omega) (by show ls B n p + i < we B n p; omega)).2
      exact of_decide_eq_true this
    have key : (we B n p - ls B n p ≤ 10 ∧ hf (fun i => B (ls B n p + i) - 96) (we B n p - ls B n p) = wh j) ↔ mtw B (ls B n p) (we B n p) j := by
      constructor
      · rintro ⟨z1, z2⟩
        have := hf_inj _ _ (fun i hi => by have := hin i hi; show 1 ≤ B (ls B n p + i) - 96 ∧ B (ls B n p + i) - 96 ≤ 31; omega) (fun i hi => by have := hwc i hi; show 1 ≤ wc j i - 96 ∧ wc j i - 96 ≤ 31; omega) z2
        refine ⟨by omega, fun i hi => ?_⟩
        have a := this.2 i (by omega)
        have a : B (ls B n p + i) - 96 = wc j i - 96 := a
        have b := hin i (by omega)
        have c := hwc i hi
        omega
      · rintro ⟨z1, z2⟩
        have el : we B n p - ls B n p = wl j := by omega
        refine ⟨by omega, ?_⟩
        rw [el]
        exact hf_c _ (fun i hi => by show B (ls B n p + i) - 96 = wc j i - 96; rw [z2 i hi])
    unfold wth
    rw [s1, if_pos rfl]
    have hwh : wh j < 2 ^ 64 := by
      have := hf_lt (F := fun i => wc j i - 96) (wl j) (fun i hi => by have := hwc i hi; show wc j i - 96 ≤ 31; omega)
      have h32 : 32 ^ wl j ≤ 32 ^ 7 := Nat.pow_le_pow_right (by decide) hwl.2
      exact Nat.lt_of_lt_of_le this (Nat.le_trans h32 (by decide))
    constructor
    · rintro ⟨-, z⟩
      by_cases q3 : we B n p - ls B n p ≤ 10
      · rw [if_pos q3] at z
        have hb : hf (fun i => B (ls B n p + i) - 96) (we B n p - ls B n p) < 2 ^ 64 := by
          have := hf_lt (F := fun i => B (ls B n p + i) - 96) (we B n p - ls B n p) (fun i hi => by have := hin i hi; show B (ls B n p + i) - 96 ≤ 31; omega)
          exact Nat.lt_of_lt_of_le this (Nat.le_trans (Nat.pow_le_pow_right (by decide) q3) (by decide))
        rw [lN64 hb hwh] at z
        exact mt_wdF hj (key.1 ⟨q3, z⟩) 18 0 (by omega) (by omega) (by omega)
      · rw [if_neg q3, m1L, lN64 (by decide) hwh] at z
        have := hf_lt (F := fun i => wc j i - 96) (wl j) (fun i hi => by have := hwc i hi; show wc j i - 96 ≤ 31; omega)
        have h32 : 32 ^ wl j ≤ 32 ^ 7 := Nat.pow_le_pow_right (by decide) hwl.2
        have h3 : wh j < 32 ^ 7 := Nat.lt_of_lt_of_le this h32
        rw [← z] at h3
        exact absurd h3 (by decide)
    · intro z
      have m := (wdF_mt 18 0 z).2
      have := key.2 m
      rw [if_pos this.1, this.2]
      exact ⟨rfl, rfl⟩
  · refine ⟨fun z => absurd (e1.1 z.1) q2, fun z => ?_⟩
    by_cases q1 : ls B n p < de B n p
    · rw [if_pos q1] at z; omega
    · rw [if_neg q1, if_neg q2] at z
      by_cases q3 : ls B n p < n
      · rw [if_pos q3] at z; omega
      · rw [if_neg q3] at z; omega
