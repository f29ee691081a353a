/-! ===== small numbers ===== -/
theorem nadd (a b : Nat) : nI a + nI b = nI (a + b) := nI_add a b
theorem nmul (a b : Nat) : nI a * nI b = nI (a * b) := pk_mul a b
theorem nsub {a b : Nat} (h : b ≤ a) : nI a - nI b = nI (a - b) := pk_sub h
theorem nlt {a b : Nat} (ha : a < 2147483648) (hb : b < 2147483648) : (nI a < nI b) = (a < b) := propext (nI_ltI ha hb)
theorem nle {a b : Nat} (ha : a < 2147483648) (hb : b < 2147483648) : (nI a ≤ nI b) = (a ≤ b) := propext (nI_leI ha hb)
theorem neq {a b : Nat} (ha : a < 2147483648) (hb : b < 2147483648) : (nI a = nI b) = (a = b) := propext (nI_eq ha hb)
theorem ncl {a : Nat} (ha : a < 2147483648) : (nI a).toNatClampNeg = a := nI_clamp ha
theorem nvi {n N : Nat} (h : n < N) (hN : N < 2147483648) : vp_in (nI n) N = True := eq_true (vp_in_nI h hN)
theorem ndiv {a d : Nat} (ha : a < 2147483648) (h0 : 0 < d) (hd : d < 2147483648) : nI a / nI d = nI (a / d) := pk_div ha h0 hd
theorem nrem {a d : Nat} (ha : a < 2147483648) (h0 : 0 < d) (hd : d < 2147483648) : nI a - nI a / nI d * nI d = nI (a % d) := pk_rem ha h0 hd
theorem ni_bv (n : Nat) : (nI n).toBitVec = BitVec.ofNat 32 n := rfl
theorem nI_ext {x y : Int32} (h : x.toBitVec = y.toBitVec) : x = y := Int32.toBitVec_inj.1 h
theorem nand (a b : Nat) : nI a &&& nI b = nI (a &&& b) := by
  apply nI_ext
  rw [Int32.toBitVec_and, ni_bv, ni_bv, ni_bv]
  apply BitVec.eq_of_toNat_eq
  simp only [BitVec.toNat_and, BitVec.toNat_ofNat, Nat.and_mod_two_pow]
theorem nor (a b : Nat) : nI a ||| nI b = nI (a ||| b) := by
  apply nI_ext
  rw [Int32.toBitVec_or, ni_bv, ni_bv, ni_bv]
  apply BitVec.eq_of_toNat_eq
  simp only [BitVec.toNat_or, BitVec.toNat_ofNat, Nat.or_mod_two_pow]
theorem nxor (a b : Nat) : nI a ^^^ nI b = nI (a ^^^ b) := by
  apply nI_ext
  rw [Int32.toBitVec_xor, ni_bv, ni_bv, ni_bv]
  apply BitVec.eq_of_toNat_eq
  simp only [BitVec.toNat_xor, BitVec.toNat_ofNat, Nat.xor_mod_two_pow]
theorem n31 {k : Nat} (h : k < 32) : nI k &&& 31 = nI k := by
  rw [show (31 : Int32) = nI 31 from rfl, nand]
  congr 1
  have : k &&& 31 = k % 2 ^ 5 := Nat.and_two_pow_sub_one_eq_mod k 5
  omega
theorem nsm {k : Nat} (h : k < 32) : ((nI k).toBitVec.smod 32).toNat = k := by
  have : ∀ k : Fin 32, ((nI k.1).toBitVec.smod 32).toNat = k.1 := by decide
  exact this ⟨k, h⟩
theorem nshl {a k : Nat} (h : k < 32) : nI a <<< (nI k &&& 31) = nI (a <<< k) := by
  rw [n31 h]
  apply nI_ext
  apply BitVec.eq_of_toNat_eq
  rw [pk_shl (nI a) (nI k) k (nsm h)]
  rw [ni_bv, ni_bv, BitVec.toNat_ofNat, BitVec.toNat_ofNat, Nat.shiftLeft_eq]
  rw [Nat.mod_mul_mod]
theorem nshr {a k : Nat} (ha : a < 2147483648) (h : k < 32) : nI a >>> (nI k &&& 31) = nI (a >>> k) := by
  rw [n31 h, pk_shrN ha (nI k) k (nsm h), Nat.shiftRight_eq_div_pow]
theorem exI {r : Int32} {P : Int32 → Prop} : (∃ i : Int32, some (Value.int r) = some (Value.int i) ∧ P i) = P r := propext ⟨fun ⟨i, e, h⟩ => by cases e; exact h, fun h => ⟨r, rfl, h⟩⟩
theorem exJ {r : Int64} {P : Int64 → Prop} : (∃ i : Int64, some (Value.long r) = some (Value.long i) ∧ P i) = P r := propext ⟨fun ⟨i, e, h⟩ => by cases e; exact h, fun h => ⟨r, rfl, h⟩⟩
theorem exV {P : Prop} : ((none : Option Value) = none ∧ P) = P := propext ⟨fun h => h.2, fun h => ⟨rfl, h⟩⟩
/-- an answer of yes or no -/
def bi (b : Bool) : Int32 := nI b.toNat
theorem bi_0 {b : Bool} : (bi b = nI 0) = (b = false) := by cases b <;> simp only [bi] <;> decide
theorem bi_1 {b : Bool} : (bi b = nI 1) = (b = true) := by cases b <;> simp only [bi] <;> decide
theorem bi_z {b : Bool} : (bi b = nI 0 ∨ bi b = nI 1) = True := by cases b <;> simp only [bi] <;> decide
theorem bft {b : Bool} : (b = false ∨ b = true) = True := by cases b <;> simp
theorem n10 : (nI 1 = nI 0) = False := eq_false (by decide)
theorem n01 : (nI 0 = nI 1) = False := eq_false (by decide)
theorem bi_T : bi true = nI 1 := rfl
theorem bi_F : bi false = nI 0 := rfl
/-- down from the end of a loop -/
theorem dn {P : Nat → Prop} {n : Nat} (h0 : P n) (hs : ∀ k, k < n → P (k + 1) → P k) : ∀ k, k ≤ n → P k := by
  intro k hk
  obtain ⟨j, rfl⟩ : ∃ j, n = k + j := ⟨n - k, by omega⟩
  clear hk
  induction j generalizing k with
  | zero => exact h0
  | succ j ih => exact hs k (by omega) (ih (k + 1) (by rw [show k + 1 + j = k + (j + 1) by omega]; exact h0) (by rw [show k + 1 + j = k + (j + 1) by omega]; exact hs))
theorem nIx (x : Int32) (n : Nat) (hn : n < 2147483648) : x < nI 0 ∨ (¬ x < nI 0 ∧ ¬ x < nI n) ∨ ∃ j : Nat, j < n ∧ x = nI j := by
  rcases pk_ix x (n := n) hn with h | h | h
  · exact Or.inl h
  · refine Or.inr (Or.inl ⟨?_, Int32.not_lt.2 h⟩)
    intro h2
    have h3 : nI n < nI 0 := Int32.lt_of_le_of_lt h h2
    rw [nlt hn (by decide)] at h3
    omega
  · exact Or.inr (Or.inr h)
theorem u2_s {α : Type} {f : Nat → Nat → α} {a k : Nat} {v : α} : u2 f a k v a k = v := if_pos ⟨rfl, rfl⟩
theorem u2_a {α : Type} {f : Nat → Nat → α} {a k b j : Nat} {v : α} (h : b ≠ a) : u2 f a k v b j = f b j := if_neg (fun z => h z.1)
theorem u2_k {α : Type} {f : Nat → Nat → α} {a k b j : Nat} {v : α} (h : j ≠ k) : u2 f a k v b j = f b j := if_neg (fun z => h z.2)
theorem u2_r {α : Type} {f : Nat → Nat → α} {a k b : Nat} {v : α} (h : b ≠ a) : u2 f a k v b = f b := funext (fun _ => u2_a h)
