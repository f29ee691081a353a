/-! ===== sets of figures ===== -/
def bl (p : Nat → Bool) : Nat → Nat
  | 0 => 0
  | k + 1 => if p k then bl p k ||| 1 <<< k else bl p k
theorem bl_lt (p : Nat → Bool) : ∀ k, bl p k < 2 ^ k
  | 0 => Nat.zero_lt_one
  | k + 1 => by
    have h := bl_lt p k
    have h2 : 2 ^ k < 2 ^ (k + 1) := Nat.pow_lt_pow_right (by decide) (by omega)
    unfold bl
    split
    · exact Nat.or_lt_two_pow (by omega) (by rw [Nat.one_shiftLeft]; exact h2)
    · omega
theorem bl_bit (p : Nat → Bool) : ∀ k i, (bl p k).testBit i = (decide (i < k) && p i)
  | 0, i => by
    show (0 : Nat).testBit i = _
    rw [Nat.zero_testBit]
    simp
  | k + 1, i => by
    have ih := bl_bit p k i
    have e1 : (1 <<< k).testBit i = decide (k = i) := by rw [Nat.one_shiftLeft, Nat.testBit_two_pow]
    unfold bl
    by_cases h : i = k
    · subst h
      cases hp : p i
      · rw [if_neg (by decide), ih]; simp
      · rw [if_pos rfl, Nat.testBit_or, e1]; simp
    · have e2 : decide (i < k + 1) = decide (i < k) := by
        by_cases q : i < k
        · rw [decide_eq_true q, decide_eq_true (by omega)]
        · rw [decide_eq_false q, decide_eq_false (by omega)]
      cases hp : p k
      · rw [if_neg (by decide), ih, e2]
      · rw [if_pos rfl, Nat.testBit_or, e1, ih, decide_eq_false (show ¬ k = i from fun z => h z.symm), Bool.or_false, e2]
theorem bl_cong {p q : Nat → Bool} : ∀ k, (∀ i, i < k → p i = q i) → bl p k = bl q k
  | 0, _ => rfl
  | k + 1, h => by
    unfold bl
    rw [bl_cong k (fun i hi => h i (by omega)), h k (by omega)]
theorem onb_bl (S : Nat → Nat → Nat) (b : Nat) : ∀ k, onb S b k = bl (fun f => sOn S f b) k
  | 0 => rfl
  | k + 1 => by
    unfold onb bl
    rw [onb_bl S b k]
theorem bl_more {p : Nat → Bool} {k : Nat} : ∀ j, (∀ i, k ≤ i → p i = false) → bl p (k + j) = bl p k
  | 0, _ => rfl
  | j + 1, h => by
    rw [← Nat.add_assoc]
    show (if p (k + j) then _ else _) = _
    rw [h (k + j) (by omega), if_neg (by decide), bl_more j h]
theorem ons_bl {S : Nat → Nat → Nat} (hB : SB S) (b : Nat) : sOns S b = bl (fun f => sOn S f b) 6 := by
  have h := sb7 hB 0
  unfold sOns
  rw [onb_bl]
  have e := bl_more (p := fun f => sOn S f b) (k := S 7 0) (6 - S 7 0) (fun i hi => Bool.eq_false_iff.2 (sOn_big hi))
  rw [← e]
  congr 1
  omega
theorem ons_lt {S : Nat → Nat → Nat} (hB : SB S) (b : Nat) : sOns S b < 64 := by rw [ons_bl hB]; exact bl_lt _ 6
theorem ons_bit {S : Nat → Nat → Nat} (hB : SB S) {b i : Nat} (hi : i < 6) : (sOns S b).testBit i = sOn S i b := by
  rw [ons_bl hB, bl_bit, decide_eq_true hi, Bool.true_and]
/-- one set within another -/
theorem sub_bit {s a : Nat} : s &&& a = s ↔ ∀ i, s.testBit i = true → a.testBit i = true := by
  constructor
  · intro h i hi
    rw [← h, Nat.testBit_and] at hi
    simp only [Bool.and_eq_true] at hi
    exact hi.2
  · intro h
    apply Nat.eq_of_testBit_eq
    intro i
    rw [Nat.testBit_and]
    cases q : s.testBit i
    · rfl
    · rw [h i q]; rfl
theorem sub_le {s a : Nat} (h : s &&& a = s) : s ≤ a := by rw [← h]; exact Nat.and_le_right
theorem sub_tr {s a b : Nat} (h : s &&& a = s) (h2 : a &&& b = a) : s &&& b = s := by rw [← h, Nat.and_assoc, h2]
theorem tb6 {s i : Nat} (hs : s < 64) (h : s.testBit i = true) : i < 6 := by
  by_cases q : i < 6
  · exact q
  · have : s.testBit i = false := Nat.testBit_lt_two_pow (Nat.lt_of_lt_of_le hs (Nat.pow_le_pow_right (n := 2) (by decide) (show 6 ≤ i by omega)))
    rw [this] at h
    cases h
theorem nsubm {s a : Nat} (hs : s < 4294967296) : (nI s &&& (nI a ^^^ (-1 : Int32)) = nI 0) = (s &&& a = s) := by
  apply propext
  rw [sub_bit]
  have key : ∀ i, i < 32 → bt (nI s &&& (nI a ^^^ (-1 : Int32))) i = (s.testBit i && !(a.testBit i)) := by
    intro i hi
    rw [b_and, b_xor, b_m1 i hi, bt_nI hi, bt_nI hi, Bool.xor_true]
  constructor
  · intro h i hi
    have hi32 : i < 32 := by
      by_cases q : i < 32
      · exact q
      · have : s.testBit i = false := Nat.testBit_lt_two_pow (Nat.lt_of_lt_of_le hs (Nat.pow_le_pow_right (n := 2) (by decide) (show 32 ≤ i by omega)))
        rw [this] at hi
        cases hi
    have := key i hi32
    rw [h, bt_nI hi32, Nat.zero_testBit, hi] at this
    cases q : a.testBit i
    · rw [q] at this; cases this
    · rfl
  · intro h
    apply b_ext
    intro i hi
    rw [key i hi, bt_nI hi, Nat.zero_testBit]
    cases q : s.testBit i
    · rfl
    · rw [h i q]; rfl
/-! sums over splits of a set in two, three, four -/
def sp : Nat → (Nat → Nat → Nat) → Nat → Nat
  | 0, f, _ => f 0 0
  | m + 1, f, s => if s.testBit m then sp m (fun p r => f (p + 2 ^ m) r) s + sp m (fun p r => f p (r + 2 ^ m)) s else sp m f s
def sp3 : Nat → (Nat → Nat → Nat → Nat) → Nat → Nat
  | 0, f, _ => f 0 0 0
  | m + 1, f, s => if s.testBit m then sp3 m (fun k t r => f (k + 2 ^ m) t r) s + (sp3 m (fun k t r => f k (t + 2 ^ m) r) s + sp3 m (fun k t r => f k t (r + 2 ^ m)) s) else sp3 m f s
def sp4 : Nat → (Nat → Nat → Nat → Nat → Nat) → Nat → Nat
  | 0, f, _ => f 0 0 0 0
  | m + 1, f, s => if s.testBit m then sp4 m (fun k t o z => f (k + 2 ^ m) t o z) s + (sp4 m (fun k t o z => f k (t + 2 ^ m) o z) s + (sp4 m (fun k t o z => f k t (o + 2 ^ m) z) s + sp4 m (fun k t o z => f k t o (z + 2 ^ m)) s)) else sp4 m f s
theorem sp_cong : ∀ m {f f2 : Nat → Nat → Nat} {s : Nat}, (∀ p r, p < 2 ^ m → r < 2 ^ m → f p r = f2 p r) → sp m f s = sp m f2 s
  | 0, f, f2, s, h => h 0 0 (by decide) (by decide)
  | m + 1, f, f2, s, h => by
    have e : 2 ^ (m + 1) = 2 ^ m + 2 ^ m := by rw [Nat.pow_succ]; omega
    rw [e] at h
    unfold sp
    rw [sp_cong m (fun p r hp hr => h (p + 2 ^ m) r (by omega) (by omega)), sp_cong m (fun p r hp hr => h p (r + 2 ^ m) (by omega) (by omega)), sp_cong m (fun p r hp hr => h p r (by omega) (by omega))]
theorem sp_add : ∀ m {f f2 : Nat → Nat → Nat} {s : Nat}, sp m (fun p r => f p r + f2 p r) s = sp m f s + sp m f2 s
  | 0, f, f2, s => rfl
  | m + 1, f, f2, s => by
    unfold sp
    have e1 := sp_add m (f := fun p r => f (p + 2 ^ m) r) (f2 := fun p r => f2 (p + 2 ^ m) r) (s := s)
    have e2 := sp_add m (f := fun p r => f p (r + 2 ^ m)) (f2 := fun p r => f2 p (r + 2 ^ m)) (s := s)
    have e3 := sp_add m (f := f) (f2 := f2) (s := s)
    split
    · rw [e1, e2]; omega
    · exact e3
theorem sp3_add : ∀ m {f f2 : Nat → Nat → Nat → Nat} {s : Nat}, sp3 m (fun p q r => f p q r + f2 p q r) s = sp3 m f s + sp3 m f2 s
  | 0, f, f2, s => rfl
  | m + 1, f, f2, s => by
    unfold sp3
    have e1 := sp3_add m (f := fun k t r => f (k + 2 ^ m) t r) (f2 := fun k t r => f2 (k + 2 ^ m) t r) (s := s)
    have e2 := sp3_add m (f := fun k t r => f k (t + 2 ^ m) r) (f2 := fun k t r => f2 k (t + 2 ^ m) r) (s := s)
    have e4 := sp3_add m (f := fun k t r => f k t (r + 2 ^ m)) (f2 := fun k t r => f2 k t (r + 2 ^ m)) (s := s)
    have e3 := sp3_add m (f := f) (f2 := f2) (s := s)
    split
    · rw [e1, e2, e4]; omega
    · exact e3
theorem sp3_cong : ∀ m {f f2 : Nat → Nat → Nat → Nat} {s : Nat}, (∀ p q r, p < 2 ^ m → q < 2 ^ m → r < 2 ^ m → f p q r = f2 p q r) → sp3 m f s = sp3 m f2 s
  | 0, f, f2, s, h => h 0 0 0 (by decide) (by decide) (by decide)
  | m + 1, f, f2, s, h => by
    have e : 2 ^ (m + 1) = 2 ^ m + 2 ^ m := by rw [Nat.pow_succ]; omega
    rw [e] at h
    unfold sp3
    rw [sp3_cong m (fun p q r hp hq hr => h (p + 2 ^ m) q r (by omega) (by omega) (by omega)), sp3_cong m (fun p q r hp hq hr => h p (q + 2 ^ m) r (by omega) (by omega) (by omega)), sp3_cong m (fun p q r hp hq hr => h p q (r + 2 ^ m) (by omega) (by omega) (by omega)), sp3_cong m (fun p q r hp hq hr => h p q r (by omega) (by omega) (by omega))]
theorem sp_low : ∀ m {f : Nat → Nat → Nat} {s s2 : Nat}, (∀ i, i < m → s.testBit i = s2.testBit i) → sp m f s = sp m f s2
  | 0, f, s, s2, _ => rfl
  | m + 1, f, s, s2, h => by
    unfold sp
    rw [h m (by omega), sp_low m (fun i hi => h i (by omega)), sp_low m (fun i hi => h i (by omega)), sp_low m (fun i hi => h i (by omega))]
theorem tb_top {m r : Nat} (hr : r < 2 ^ m) : (r + 2 ^ m).testBit m = true := by
  rw [Nat.add_comm, Nat.testBit_two_pow_add_eq, Nat.testBit_lt_two_pow hr]
  rfl
theorem tb_lo {m r i : Nat} (hi : i < m) : (r + 2 ^ m).testBit i = r.testBit i := by
  rw [Nat.add_comm, Nat.testBit_two_pow_add_gt hi]
theorem sp_sm {m r : Nat} {f : Nat → Nat → Nat} (hr : r < 2 ^ m) : sp (m + 1) f r = sp m f r := by
  show (if r.testBit m then _ else _) = _
  rw [Nat.testBit_lt_two_pow hr]
  exact if_neg (by decide)
theorem sp_big {m r : Nat} {f : Nat → Nat → Nat} (hr : r < 2 ^ m) : sp (m + 1) f (r + 2 ^ m) = sp m (fun p r => f (p + 2 ^ m) r) r + sp m (fun p r => f p (r + 2 ^ m)) r := by
  show (if (r + 2 ^ m).testBit m then _ else _) = _
  rw [if_pos (tb_top hr), sp_low m (s := r + 2 ^ m) (s2 := r) (fun i hi => tb_lo hi), sp_low m (s := r + 2 ^ m) (s2 := r) (fun i hi => tb_lo hi)]
theorem sp_fus : ∀ m {h : Nat → Nat → Nat → Nat} {s : Nat}, sp m (fun k r => sp m (fun t q => h k t q) r) s = sp3 m h s
  | 0, h, s => rfl
  | m + 1, h, s => by
    have e1 := sp_fus m (h := fun k t q => h (k + 2 ^ m) t q) (s := s)
    have e2 := sp_fus m (h := fun k t q => h k (t + 2 ^ m) q) (s := s)
    have e3 := sp_fus m (h := fun k t q => h k t (q + 2 ^ m)) (s := s)
    have e4 := sp_fus m (h := h) (s := s)
    show (if s.testBit m then sp m (fun k r => sp (m + 1) (fun t q => h (k + 2 ^ m) t q) r) s + sp m (fun k r => sp (m + 1) (fun t q => h k t q) (r + 2 ^ m)) s else sp m (fun k r => sp (m + 1) (fun t q => h k t q) r) s) = (if s.testBit m then _ else _)
    rw [sp_cong m (fun k r _ hr => sp_sm hr), sp_cong m (fun k r _ hr => sp_big hr), sp_cong m (fun k r _ hr => sp_sm hr), sp_add, e1, e2, e3, e4]
theorem sp_fus4 : ∀ m {h : Nat → Nat → Nat → Nat → Nat} {s : Nat}, sp3 m (fun k t r => sp m (fun o z => h k t o z) r) s = sp4 m h s
  | 0, h, s => rfl
  | m + 1, h, s => by
    have e1 := sp_fus4 m (h := fun k t o z => h (k + 2 ^ m) t o z) (s := s)
    have e2 := sp_fus4 m (h := fun k t o z => h k (t + 2 ^ m) o z) (s := s)
    have e3 := sp_fus4 m (h := fun k t o z => h k t (o + 2 ^ m) z) (s := s)
    have e5 := sp_fus4 m (h := fun k t o z => h k t o (z + 2 ^ m)) (s := s)
    have e4 := sp_fus4 m (h := h) (s := s)
    show (if s.testBit m then sp3 m (fun k t r => sp (m + 1) (fun o z => h (k + 2 ^ m) t o z) r) s + (sp3 m (fun k t r => sp (m + 1) (fun o z => h k (t + 2 ^ m) o z) r) s + sp3 m (fun k t r => sp (m + 1) (fun o z => h k t o z) (r + 2 ^ m)) s) else sp3 m (fun k t r => sp (m + 1) (fun o z => h k t o z) r) s) = (if s.testBit m then _ else _)
    rw [sp3_cong m (fun k t r _ _ hr => sp_sm hr), sp3_cong m (fun k t r _ _ hr => sp_sm hr), sp3_cong m (fun k t r _ _ hr => sp_big hr), sp3_cong m (fun k t r _ _ hr => sp_sm hr), sp3_add, e1, e2, e3, e4, e5]
theorem fin_sub : ∀ m, m < 6 → ∀ q, q < 2 ^ m → ∀ s, s < 2 ^ m → (q &&& (s + 2 ^ m) = q ↔ q &&& s = q) ∧ ((2 ^ m + q) &&& (s + 2 ^ m) = 2 ^ m + q ↔ q &&& s = q) ∧ ¬ ((2 ^ m + q) &&& s = 2 ^ m + q) ∧ (s + 2 ^ m) ^^^ q = (s ^^^ q) + 2 ^ m ∧ (s + 2 ^ m) ^^^ (2 ^ m + q) = s ^^^ q := by decide +kernel
theorem sm_0 {f : Nat → Nat} : ∀ {n : Nat}, (∀ k, k < n → f k = 0) → fb_sm f n = 0
  | 0, _ => rfl
  | n + 1, h => by rw [fb_sm_succ, sm_0 (fun k hk => h k (by omega)), h n (by omega)]
theorem sm_sp : ∀ m, m ≤ 6 → ∀ (f : Nat → Nat → Nat) (s : Nat), s < 2 ^ m → fb_sm (fun q => if q &&& s = q then f q (s ^^^ q) else 0) (2 ^ m) = sp m f s
  | 0, _, f, s, hs => by
    obtain rfl : s = 0 := by omega
    show 0 + (if (0 : Nat) &&& 0 = 0 then f 0 (0 ^^^ 0) else 0) = f 0 0
    simp
  | m + 1, hm, f, s, hs => by
    have e : 2 ^ (m + 1) = 2 ^ m + 2 ^ m := by rw [Nat.pow_succ]; omega
    rw [e] at hs ⊢
    rw [fb_sm_split]
    by_cases q : s < 2 ^ m
    · rw [sp_sm q, ← sm_sp m (by omega) f s q, Nat.add_eq_left]
      exact sm_0 (fun k hk => if_neg (fin_sub m (by omega) k hk s q).2.2.1)
    · obtain ⟨t, ht, rfl⟩ : ∃ t, t < 2 ^ m ∧ s = t + 2 ^ m := ⟨s - 2 ^ m, by omega, by omega⟩
      rw [sp_big ht, ← sm_sp m (by omega) _ t ht, ← sm_sp m (by omega) _ t ht, Nat.add_comm]
      congr 1
      · apply fb_sm_cong
        intro k hk
        have h := fin_sub m (by omega) k hk t ht
        simp only [h.2.1, h.2.2.2.2]
        rw [Nat.add_comm (2 ^ m) k]
      · apply fb_sm_cong
        intro k hk
        have h := fin_sub m (by omega) k hk t ht
        simp only [h.1, h.2.2.2.1]
/-! holdings counted by holders -/
def e0 (r : Nat) : Nat := if r = 0 then 1 else 0
def conv (c w : Nat → Nat) (s : Nat) : Nat := fb_sm (fun q => if q &&& s = q then c q * w (s ^^^ q) else 0) 64
def wH (can : Nat → Nat → Bool) : Nat → Nat → Nat
  | 0 => e0
  | k + 1 => conv (fun q => (can k q).toNat) (wH can k)
def hn (can : Nat → Nat → Bool) (hp s : Nat) : Nat := conv (fun q => (can 3 q).toNat) (wH can hp) s
def cw (can : Nat → Nat → Bool) (hp h s : Nat) : Nat := if h < hp then (can h s).toNat else e0 s
theorem xor64 {a b : Nat} (ha : a < 64) (hb : b < 64) : a ^^^ b < 64 := Nat.xor_lt_two_pow (n := 6) ha hb
theorem conv_cong {c c2 w w2 : Nat → Nat} (h : ∀ q, q < 64 → c q = c2 q) (h2 : ∀ r, r < 64 → w r = w2 r) {s : Nat} (hs : s < 64) : conv c w s = conv c2 w2 s := by
  apply fb_sm_cong
  intro k hk
  rw [h k hk, h2 (s ^^^ k) (xor64 hs hk)]
theorem conv_sp {c w : Nat → Nat} {s : Nat} (hs : s < 64) : conv c w s = sp 6 (fun p r => c p * w r) s := sm_sp 6 (Nat.le_refl _) (fun p r => c p * w r) s hs
theorem sm_one {f : Nat → Nat} {i : Nat} : ∀ {n : Nat}, i < n → (∀ k, k < n → k ≠ i → f k = 0) → fb_sm f n = f i
  | 0, h, _ => by omega
  | n + 1, h, h2 => by
    rw [fb_sm_succ]
    by_cases q : i = n
    · subst q
      rw [sm_0 (fun k hk => h2 k (by omega) (by omega)), Nat.zero_add]
    · rw [sm_one (i := i) (by omega) (fun k hk => h2 k (by omega)), h2 n (by omega) (fun z => q z.symm), Nat.add_zero]
theorem conv_e {w : Nat → Nat} {s : Nat} : conv e0 w s = w s := by
  unfold conv
  rw [sm_one (i := 0) (by decide)]
  · rw [Nat.zero_and, if_pos rfl, Nat.xor_zero]
    show 1 * w s = w s
    rw [Nat.one_mul]
  · intro k hk hk2
    show (if k &&& s = k then e0 k * _ else 0) = 0
    rw [show e0 k = 0 from if_neg hk2, Nat.zero_mul, ite_self]
theorem conv_l {c : Nat → Nat} {s : Nat} (hs : s < 64) : conv c e0 s = c s := by
  unfold conv
  rw [sm_one (i := s) hs]
  · rw [Nat.and_self, if_pos rfl, Nat.xor_self]
    show c s * 1 = c s
    rw [Nat.mul_one]
  · intro k hk hk2
    have : e0 (s ^^^ k) = 0 := if_neg (fun z => hk2 ((by
      have h : s ^^^ k ^^^ k = 0 ^^^ k := by rw [z]
      rw [Nat.xor_assoc, Nat.xor_self, Nat.xor_zero, Nat.zero_xor] at h
      exact h.symm)))
    show (if k &&& s = k then c k * e0 (s ^^^ k) else 0) = 0
    rw [this, Nat.mul_zero, ite_self]
theorem wH_cw (can : Nat → Nat → Bool) {hp s : Nat} (hh : hp ≤ 3) (hs : s < 64) : wH can hp s = conv (cw can hp 2) (conv (cw can hp 1) (cw can hp 0)) s := by
  have a0 : ∀ h, ¬ h < hp → cw can hp h = e0 := fun h q => funext (fun r => if_neg q)
  have a1 : ∀ h, h < hp → cw can hp h = (fun q => (can h q).toNat) := fun h q => funext (fun r => if_pos q)
  have : hp = 0 ∨ hp = 1 ∨ hp = 2 ∨ hp = 3 := by omega
  rcases this with rfl | rfl | rfl | rfl
  · rw [a0 0 (by omega), a0 1 (by omega), a0 2 (by omega), conv_e, conv_e]
    rfl
  · rw [a1 0 (by omega), a0 1 (by omega), a0 2 (by omega), conv_e, conv_e]
    exact conv_l hs
  · rw [a1 0 (by omega), a1 1 (by omega), a0 2 (by omega), conv_e]
    exact conv_cong (fun _ _ => rfl) (fun r hr => conv_l hr) hs
  · rw [a1 0 (by omega), a1 1 (by omega), a1 2 (by omega)]
    exact conv_cong (fun _ _ => rfl) (fun r hr => conv_cong (fun _ _ => rfl) (fun r hr => conv_l hr) hr) hs
def hnF (can : Nat → Nat → Bool) (hp : Nat) (k t o z : Nat) : Nat := (can 3 k).toNat * (cw can hp 2 t * (cw can hp 1 o * cw can hp 0 z))
theorem sp_mul : ∀ m {f : Nat → Nat → Nat} {c s : Nat}, c * sp m f s = sp m (fun p r => c * f p r) s
  | 0, f, c, s => rfl
  | m + 1, f, c, s => by
    unfold sp
    rw [← sp_mul m, ← sp_mul m, ← sp_mul m]
    split
    · rw [Nat.mul_add]
    · rfl
theorem hn_sp4 (can : Nat → Nat → Bool) {hp s : Nat} (hh : hp ≤ 3) (hs : s < 64) : hn can hp s = sp4 6 (hnF can hp) s := by
  unfold hn
  rw [conv_cong (fun _ _ => rfl) (fun r hr => wH_cw can hh hr) hs, conv_sp hs]
  rw [← sp_fus4 6, ← sp_fus 6]
  apply sp_cong
  intro k r _ hr
  rw [conv_sp hr, sp_mul]
  apply sp_cong
  intro t q _ hq
  rw [conv_sp hq, sp_mul, sp_mul]
  rfl
/-! and by numbers whose digits are the holders -/
def dg (m c f : Nat) : Nat := c / 4 ^ (m - 1 - f) % 4
def hset (s m c h : Nat) : Nat := bl (fun f => s.testBit f && decide (dg m c f = h)) m
def okz (s m c : Nat) : Bool := decide (∀ f, f < m → s.testBit f = false → dg m c f = 0)
theorem dg_lo {m c f e : Nat} (hf : f < m) (he : e < 4) : dg (m + 1) (4 * c + e) f = dg m c f := by
  unfold dg
  rw [show m + 1 - 1 - f = (m - 1 - f) + 1 by omega, Nat.pow_succ, Nat.mul_comm (4 ^ (m - 1 - f)) 4, ← Nat.div_div_eq_div_mul, show (4 * c + e) / 4 = c by omega]
theorem dg_top {m c e : Nat} (he : e < 4) : dg (m + 1) (4 * c + e) m = e := by
  unfold dg
  rw [show m + 1 - 1 - m = 0 by omega, Nat.pow_zero, Nat.div_one]
  omega
theorem or_top {m x : Nat} (hx : x < 2 ^ m) : x ||| 1 <<< m = x + 2 ^ m := by
  have h := Nat.two_pow_add_eq_or_of_lt hx 1
  rw [Nat.mul_one] at h
  rw [Nat.one_shiftLeft, Nat.or_comm, ← h, Nat.add_comm]
theorem hset_s {s m c e h : Nat} (he : e < 4) : hset s (m + 1) (4 * c + e) h = if s.testBit m = true ∧ e = h then hset s m c h + 2 ^ m else hset s m c h := by
  unfold hset
  show (if (s.testBit m && decide (dg (m + 1) (4 * c + e) m = h)) then _ else _) = _
  rw [dg_top he, bl_cong m (fun f hf => by rw [dg_lo hf he] : ∀ f, f < m → (s.testBit f && decide (dg (m + 1) (4 * c + e) f = h)) = (s.testBit f && decide (dg m c f = h)))]
  by_cases q : s.testBit m = true ∧ e = h
  · rw [if_pos q, if_pos (by rw [q.1, decide_eq_true q.2]; rfl)]
    exact or_top (bl_lt _ m)
  · rw [if_neg q, if_neg (by rw [Bool.and_eq_true, decide_eq_true_iff]; exact q)]
theorem hset_n {s m c e h : Nat} (he : e < 4) (hb : ¬ s.testBit m = true) : hset s (m + 1) (4 * c + e) h = hset s m c h := by rw [hset_s he, if_neg (fun z => hb z.1)]
theorem okz_s {s m c e : Nat} (he : e < 4) : okz s (m + 1) (4 * c + e) = (okz s m c && (s.testBit m || decide (e = 0))) := by
  rw [Bool.eq_iff_iff]
  unfold okz
  rw [Bool.and_eq_true, Bool.or_eq_true, decide_eq_true_iff, decide_eq_true_iff, decide_eq_true_iff]
  constructor
  · intro h
    refine ⟨fun f hf hb => ?_, ?_⟩
    · rw [← dg_lo hf he]
      exact h f (by omega) hb
    · cases q : s.testBit m
      · right
        have := h m (by omega) q
        rw [dg_top he] at this
        exact this
      · left; rfl
  · rintro ⟨h1, h2⟩ f hf hb
    by_cases q : f = m
    · subst q
      rw [dg_top he]
      rcases h2 with h2 | h2
      · rw [hb] at h2; cases h2
      · exact h2
    · rw [dg_lo (by omega) he]
      exact h1 f (by omega) hb
theorem sm4 (G : Nat → Nat) : ∀ n, fb_sm G (4 * n) = fb_sm (fun c => G (4 * c + 3) + (G (4 * c + 2) + (G (4 * c + 1) + G (4 * c + 0)))) n
  | 0 => rfl
  | n + 1 => by
    rw [show 4 * (n + 1) = 4 * n + 1 + 1 + 1 + 1 by omega, fb_sm_succ, fb_sm_succ, fb_sm_succ, fb_sm_succ, fb_sm_succ, sm4 G n]
    show _ = _ + (G (4 * n + 3) + (G (4 * n + 2) + (G (4 * n + 1) + G (4 * n + 0))))
    rw [show 4 * n + 1 + 1 + 1 = 4 * n + 3 by omega, show 4 * n + 1 + 1 = 4 * n + 2 by omega, show 4 * n + 0 = 4 * n by omega]
    omega
def hG (s m : Nat) (F : Nat → Nat → Nat → Nat → Nat) (c : Nat) : Nat := if okz s m c then F (hset s m c 3) (hset s m c 2) (hset s m c 1) (hset s m c 0) else 0
theorem hG_s {s m c e : Nat} {F : Nat → Nat → Nat → Nat → Nat} (he : e < 4) (hb : s.testBit m = true) : hG s (m + 1) F (4 * c + e) = hG s m (fun k t o z => F (if e = 3 then k + 2 ^ m else k) (if e = 2 then t + 2 ^ m else t) (if e = 1 then o + 2 ^ m else o) (if e = 0 then z + 2 ^ m else z)) c := by
  unfold hG
  rw [okz_s he, hset_s he, hset_s he, hset_s he, hset_s he, hb]
  simp only [Bool.true_or, Bool.and_true, true_and]
theorem sm_codes : ∀ m (s : Nat) (F : Nat → Nat → Nat → Nat → Nat), fb_sm (hG s m F) (4 ^ m) = sp4 m F s
  | 0, s, F => by
    show 0 + hG s 0 F 0 = F 0 0 0 0
    unfold hG
    rw [if_pos (by unfold okz; exact decide_eq_true (fun f hf => absurd hf (by omega)))]
    exact Nat.zero_add _
  | m + 1, s, F => by
    rw [Nat.pow_succ, Nat.mul_comm, sm4]
    by_cases hb : s.testBit m = true
    · rw [show sp4 (m + 1) F s = _ from if_pos hb, ← sm_codes m, ← sm_codes m, ← sm_codes m, ← sm_codes m, ← fb_sm_add, ← fb_sm_add, ← fb_sm_add]
      apply fb_sm_cong
      intro c _
      rw [hG_s (by decide) hb, hG_s (by decide) hb, hG_s (by decide) hb, hG_s (by decide) hb]
      rfl
    · rw [show sp4 (m + 1) F s = _ from if_neg hb, ← sm_codes m]
      apply fb_sm_cong
      intro c _
      have z : ∀ e, e < 4 → e ≠ 0 → hG s (m + 1) F (4 * c + e) = 0 := by
        intro e he h0
        unfold hG
        rw [okz_s he, if_neg]
        rw [Bool.and_eq_true, Bool.or_eq_true, decide_eq_true_iff]
        rintro ⟨_, h | h⟩
        · exact hb h
        · exact h0 h
      rw [z 3 (by decide) (by decide), z 2 (by decide) (by decide), z 1 (by decide) (by decide), Nat.zero_add, Nat.zero_add, Nat.zero_add]
      unfold hG
      rw [okz_s (by decide), hset_n (by decide) hb, hset_n (by decide) hb, hset_n (by decide) hb, hset_n (by decide) hb]
      simp
def vld (hp s m c : Nat) : Bool := decide (∀ f, f < m → (s.testBit f = true ∧ dg m c f < 3) → dg m c f < hp)
/-- a number that is a holding -/
def isH (can : Nat → Nat → Bool) (hp s c : Nat) : Bool := okz s 6 c && vld hp s 6 c && (can 0 (hset s 6 c 0) && (can 1 (hset s 6 c 1) && (can 2 (hset s 6 c 2) && can 3 (hset s 6 c 3))))
theorem hset_0 {s m c h : Nat} : hset s m c h = 0 ↔ ∀ f, f < m → s.testBit f = true → dg m c f ≠ h := by
  unfold hset
  constructor
  · intro z f hf hb e
    have := bl_bit (fun f => s.testBit f && decide (dg m c f = h)) m f
    rw [z, Nat.zero_testBit, hb, decide_eq_true hf, decide_eq_true e] at this
    cases this
  · intro z
    apply Nat.eq_of_testBit_eq
    intro i
    rw [bl_bit, Nat.zero_testBit]
    by_cases q : i < m
    · cases hb : s.testBit i
      · simp
      · rw [decide_eq_false (z i q hb)]; simp
    · rw [decide_eq_false q]; rfl
theorem isH_G {can : Nat → Nat → Bool} {hp s c : Nat} (h0 : ∀ h, h < 4 → can h 0 = true) : (isH can hp s c).toNat = hG s 6 (hnF can hp) c := by
  unfold isH hG hnF
  cases ho : okz s 6 c
  · rfl
  rw [if_pos rfl, Bool.true_and]
  have ew : ∀ h, h < 3 → (hp ≤ h → hset s 6 c h = 0) → cw can hp h (hset s 6 c h) = (can h (hset s 6 c h)).toNat := by
    intro h h3 hz
    unfold cw
    by_cases q : h < hp
    · rw [if_pos q]
    · rw [if_neg q, hz (by omega), h0 h (by omega)]
      rfl
  by_cases hv : ∀ f, f < 6 → (s.testBit f = true ∧ dg 6 c f < 3) → dg 6 c f < hp
  · rw [show vld hp s 6 c = true from decide_eq_true hv, Bool.true_and]
    have hz : ∀ h, h < 3 → hp ≤ h → hset s 6 c h = 0 := by
      intro h h3 hh
      rw [hset_0]
      intro f hf hb e
      have := hv f hf ⟨hb, by omega⟩
      omega
    rw [ew 0 (by decide) (hz 0 (by decide)), ew 1 (by decide) (hz 1 (by decide)), ew 2 (by decide) (hz 2 (by decide))]
    cases can 0 (hset s 6 c 0) <;> cases can 1 (hset s 6 c 1) <;> cases can 2 (hset s 6 c 2) <;> cases can 3 (hset s 6 c 3) <;> rfl
  · rw [show vld hp s 6 c = false from decide_eq_false hv, Bool.false_and]
    have : ∃ h, h < 3 ∧ hp ≤ h ∧ hset s 6 c h ≠ 0 := by
      apply Classical.byContradiction
      intro q
      apply hv
      rintro f hf ⟨hb, h3⟩
      apply Classical.byContradiction
      intro q2
      exact q ⟨dg 6 c f, h3, by omega, fun z => (hset_0.1 z) f hf hb rfl⟩
    obtain ⟨h, h3, hh, hne⟩ := this
    have ez : cw can hp h (hset s 6 c h) = 0 := by
      unfold cw
      rw [if_neg (by omega)]
      exact if_neg hne
    have : h = 0 ∨ h = 1 ∨ h = 2 := by omega
    rcases this with rfl | rfl | rfl
    · rw [ez, Nat.mul_zero, Nat.mul_zero, Nat.mul_zero]; rfl
    · rw [ez, Nat.zero_mul, Nat.mul_zero, Nat.mul_zero]; rfl
    · rw [ez, Nat.zero_mul, Nat.mul_zero]; rfl
theorem ct_sm (p : Nat → Bool) : ∀ n, fb_ct p n = fb_sm (fun k => (p k).toNat) n
  | 0 => rfl
  | n + 1 => by
    rw [fb_ct_succ, fb_sm_succ, ct_sm p n]
    cases p n <;> rfl
theorem hn_codes {can : Nat → Nat → Bool} {hp s : Nat} (hh : hp ≤ 3) (hs : s < 64) (h0 : ∀ h, h < 4 → can h 0 = true) : fb_ct (isH can hp s) 4096 = hn can hp s := by
  rw [hn_sp4 can hh hs, ← sm_codes 6 s, ct_sm]
  exact fb_sm_cong (fun c _ => isH_G h0)
